/-! the law's text: what the class's reader makes of one stretch -/
abbrev CC : Type := Nat → Nat × Nat
abbrev RC : Type := (Nat × Nat) ⊕ (Nat × CC × Nat)
def psh (c : CC) (n : Nat) (o : Nat × Nat) : CC := fun j => if j = n then o else c j
def aimC (c : CC) (j n : Nat) : CC := fun i => if i = j then ((c j).1, n) else c i
def cbd (r : RC) (f : Nat → CC → Nat → RC) : RC := match r with
  | .inl e => Sum.inl e
  | .inr q => f q.1 q.2.1 q.2.2
theorem cbd_as (r : RC) (f g : Nat → CC → Nat → RC) : cbd (cbd r f) g = cbd r (fun p c n => cbd (f p c n) g) := by
  rcases r with e | q
  · rfl
  · rfl
def lkT (s : Nat) : Bool := decide (s = 107 ∨ s = 112 ∨ s = 110 ∨ s = 117 ∨ s = 102 ∨ s = 115 ∨ s = 103 ∨ s = 116 ∨ s = 119)
def mulT (s : Nat) : Bool := decide (s = 42 ∨ s = 47 ∨ s = 37)
def addT (s : Nat) : Bool := decide (s = 43 ∨ s = 45)
def cmpT (s : Nat) : Bool := decide (s = 60 ∨ s = 62 ∨ s = 61)
def clL (t : Nat → Nat) (L s : Nat) (p : Nat) (c : CC) (n : Nat) : RC := if p < L ∧ t p = s then Sum.inr (p + 1, c, n) else Sum.inl (1, p)
def fctT (t : Nat → Nat) (L : Nat) (op : Bool) (inner : Nat → CC → Nat → RC) (p : Nat) (c : CC) (n : Nat) : RC :=
  if p < L ∧ t p = 91 then (if op = true then cbd (inner (p + 1) c n) (clL t L 93) else Sum.inl (5, p)) else if dgT t L p = true then (match numT t L 5 p with
    | .inl e => Sum.inl e
    | .inr q => Sum.inr (q.1, psh c n (1, q.2), n + 1)) else if p < L ∧ lkT (t p) = true then Sum.inr (p + 1, psh c n (2, t p), n + 1) else Sum.inl (1, p)
def blp (t : Nat → Nat) (L : Nat) (it : Nat → CC → Nat → RC) (is : Nat → Bool) : Nat → Nat → CC → Nat → RC
  | 0, p, c, n => Sum.inr (p, c, n)
  | f + 1, p, c, n => if p < L ∧ is (t p) = true then cbd (it (p + 1) c n) (fun p' c' n' => blp t L it is f p' (psh c' n' (t p, 0)) (n' + 1)) else Sum.inr (p, c, n)
def prdT (t : Nat → Nat) (L : Nat) (f : Nat → CC → Nat → RC) (p : Nat) (c : CC) (n : Nat) : RC := cbd (f p c n) (blp t L f mulT 240)
def sumT (t : Nat → Nat) (L : Nat) (f : Nat → CC → Nat → RC) (p : Nat) (c : CC) (n : Nat) : RC := cbd (prdT t L f p c n) (blp t L (prdT t L f) addT 240)
def fcG (t : Nat → Nat) (L : Nat) : Nat → Nat → CC → Nat → RC
  | 0 => fctT t L false (fun p _ _ => Sum.inl (5, p))
  | g + 1 => fctT t L true (sumT t L (fcG t L g))
def jlp (t : Nat → Nat) (L : Nat) (it : Nat → CC → Nat → RC) (sg kd : Nat) : Nat → Nat → CC → Nat → RC
  | 0, p, c, n => Sum.inr (p, c, n)
  | f + 1, p, c, n => if p < L ∧ t p = sg then cbd (it (p + 1) (psh c n (kd, 0)) (n + 1)) (fun p' c' n' => jlp t L it sg kd f p' (aimC c' n n') n') else Sum.inr (p, c, n)
def ptst (s : Nat) (p : Nat) (c : CC) (n : Nat) : RC := Sum.inr (p, psh c n (s, 0), n + 1)
def cmpR (t : Nat → Nat) (L : Nat) (sm : Nat → CC → Nat → RC) (p : Nat) (c : CC) (n : Nat) : RC := cbd (sm p c n) (fun p1 c1 n1 => if p1 < L ∧ cmpT (t p1) = true then cbd (sm (p1 + 1) c1 n1) (ptst (t p1)) else Sum.inl (1, p1))
def tstT (t : Nat → Nat) (L : Nat) (op : Bool) (tin ain sm : Nat → CC → Nat → RC) (p : Nat) (c : CC) (n : Nat) : RC :=
  if p < L ∧ t p = 33 then (if op = true then cbd (tin (p + 1) c n) (ptst 3) else Sum.inl (5, p)) else if p < L ∧ t p = 40 then (if op = true then cbd (ain (p + 1) c n) (clL t L 41) else Sum.inl (5, p)) else cmpR t L sm p c n
def allT (t : Nat → Nat) (L : Nat) (ts : Nat → CC → Nat → RC) (p : Nat) (c : CC) (n : Nat) : RC := cbd (ts p c n) (jlp t L ts 38 5 240)
def anyT (t : Nat → Nat) (L : Nat) (ts : Nat → CC → Nat → RC) (p : Nat) (c : CC) (n : Nat) : RC := cbd (allT t L ts p c n) (jlp t L (allT t L ts) 124 4 240)
def tsG (t : Nat → Nat) (L : Nat) : Nat → Nat → CC → Nat → RC
  | 0 => tstT t L false (fun p _ _ => Sum.inl (5, p)) (fun p _ _ => Sum.inl (5, p)) (sumT t L (fcG t L 0))
  | g + 1 => tstT t L true (tsG t L g) (anyT t L (tsG t L g)) (sumT t L (fcG t L (g + 1)))
/-- an operation is sound: what stands on the stack ahead of it and behind it -/
def OpP (o : Nat × Nat) (n j : Nat) (y : Nat → List Bool) : Prop := (o.1 = 1 ∧ o.2 < 100000 ∧ y (j + 1) = false :: y j) ∨ (o.1 = 2 ∧ lkT o.2 = true ∧ y (j + 1) = false :: y j) ∨ ((mulT o.1 = true ∨ addT o.1 = true ∨ cmpT o.1 = true) ∧ ∃ a b r, y j = a :: b :: r ∧ y (j + 1) = cmpT o.1 :: r) ∨ (o.1 = 3 ∧ ∃ r, y j = true :: r ∧ y (j + 1) = true :: r) ∨ ((o.1 = 4 ∨ o.1 = 5) ∧ j < o.2 ∧ o.2 ≤ n ∧ ∃ r, y j = true :: r ∧ y (j + 1) = r ∧ y o.2 = y j)
theorem OpP.mono {o : Nat × Nat} {n j n2 : Nat} {y y2 : Nat → List Bool} (h : OpP o n j y) (hn : n ≤ n2) (hj : j < n) (e : ∀ i, i ≤ n → y2 i = y i) : OpP o n2 j y2 := by
  have e1 := e j (by omega)
  have e2 := e (j + 1) (by omega)
  rcases h with ⟨a, b, c⟩ | ⟨a, b, c⟩ | ⟨a, p, q, r, b, c⟩ | ⟨a, r, b, c⟩ | ⟨a, b, c, r, q1, q2, q3⟩
  · exact Or.inl ⟨a, b, by rw [e1, e2]; exact c⟩
  · exact Or.inr (Or.inl ⟨a, b, by rw [e1, e2]; exact c⟩)
  · exact Or.inr (Or.inr (Or.inl ⟨a, p, q, r, by rw [e1]; exact b, by rw [e2]; exact c⟩))
  · exact Or.inr (Or.inr (Or.inr (Or.inl ⟨a, r, by rw [e1]; exact b, by rw [e2]; exact c⟩)))
  · exact Or.inr (Or.inr (Or.inr (Or.inr ⟨a, b, by omega, r, by rw [e1]; exact q1, by rw [e2]; exact q2, by rw [e1, e o.2 c]; exact q3⟩)))
/-- a piece that was read, from its beginning on -/
def Gd (L : Nat) (tp : Bool) (B p0 : Nat) (c0 : CC) (n0 p : Nat) (c : CC) (n : Nat) : Prop := p ≤ L ∧ n0 < n ∧ n + p0 ≤ n0 + p ∧ (∀ i, i < n0 → c i = c0 i) ∧ ∀ y : Nat → List Bool, ∃ y' : Nat → List Bool, (∀ i, i ≤ n0 → y' i = y i) ∧ y' n = tp :: y n0 ∧ (∀ j, n0 ≤ j → j ≤ n → (y' j).length ≤ (y n0).length + B) ∧ ∀ j, n0 ≤ j → j < n → OpP (c j) n j y'
def Sp (L : Nat) (tp : Bool) (B : Nat) (R : Nat → CC → Nat → RC) : Prop := ∀ p c n, p ≤ L → (∃ e, R p c n = Sum.inl e ∧ 0 < e.1 ∧ e.1 < 10 ∧ e.2 ≤ L) ∨ (∃ q, R p c n = Sum.inr q ∧ Gd L tp B p c n q.1 q.2.1 q.2.2)
theorem Gd.le {L : Nat} {tp : Bool} {B B2 p0 : Nat} {c0 : CC} {n0 p : Nat} {c : CC} {n : Nat} (g : Gd L tp B p0 c0 n0 p c n) (h : B ≤ B2) : Gd L tp B2 p0 c0 n0 p c n := ⟨g.1, g.2.1, g.2.2.1, g.2.2.2.1, fun y => by
  obtain ⟨y', a, b, c, d⟩ := g.2.2.2.2 y
  exact ⟨y', a, b, fun j h1 h2 => Nat.le_trans (c j h1 h2) (by omega), d⟩⟩
theorem Gd.far {L : Nat} {tp : Bool} {B p0 q0 : Nat} {c0 : CC} {n0 p q : Nat} {c : CC} {n : Nat} (g : Gd L tp B p0 c0 n0 p c n) (h : q0 ≤ p0) (h2 : p ≤ q) (h3 : q ≤ L) : Gd L tp B q0 c0 n0 q c n := ⟨h3, g.2.1, by have := g.2.2.1; omega, g.2.2.2.1, g.2.2.2.2⟩
/-- one operation that puts an amount on the stack -/
theorem Gd.one {L B p : Nat} {c : CC} {n : Nat} (o : Nat × Nat) {p' : Nat} (hp : p < p') (hL : p' ≤ L) (hB : 1 ≤ B) (ho : (o.1 = 1 ∧ o.2 < 100000) ∨ (o.1 = 2 ∧ lkT o.2 = true)) : Gd L false B p c n p' (psh c n o) (n + 1) := by
  refine ⟨hL, by omega, by omega, fun i hi => if_neg (by omega), fun y => ⟨fun i => if i ≤ n then y i else false :: y n, fun i hi => if_pos hi, if_neg (by omega), fun j h1 h2 => ?_, fun j h1 h2 => ?_⟩⟩
  · show (if j ≤ n then y j else false :: y n).length ≤ _
    by_cases q : j ≤ n
    · rw [if_pos q, show j = n by omega]
      omega
    · rw [if_neg q, List.length_cons]
      omega
  · have hj : j = n := by omega
    subst hj
    have e : psh c j o j = o := if_pos rfl
    have y1 : (if j + 1 ≤ j then y (j + 1) else false :: y j) = false :: (if j ≤ j then y j else false :: y j) := by rw [if_neg (by omega), if_pos (Nat.le_refl _)]
    rw [e]
    rcases ho with ho | ho
    · exact Or.inl ⟨ho.1, ho.2, y1⟩
    · exact Or.inr (Or.inl ⟨ho.1, ho.2, y1⟩)
/-- two amounts and a sign -/
theorem Gd.bin {L B B1 B2 p0 : Nat} {c0 : CC} {n0 p : Nat} {c : CC} {n p1 p' : Nat} {c' : CC} {n' : Nat} (g : Gd L false B1 p0 c0 n0 p c n) (k : Gd L false B2 p1 c n p' c' n') (hp : p < p1) (s : Nat) (hs : mulT s = true ∨ addT s = true ∨ cmpT s = true) (h1 : B1 ≤ B) (h2 : B2 + 1 ≤ B) : Gd L (cmpT s) B p0 c0 n0 p' (psh c' n' (s, 0)) (n' + 1) := by
  obtain ⟨g1, g2, g3, g4, g5⟩ := g
  obtain ⟨k1, k2, k3, k4, k5⟩ := k
  refine ⟨k1, by omega, by omega, fun i hi => ?_, fun y => ?_⟩
  · show (if i = n' then (s, 0) else c' i) = _
    rw [if_neg (by omega), k4 i (by omega), g4 i hi]
  · obtain ⟨y1, a1, a2, a3, a4⟩ := g5 y
    obtain ⟨y2, b1, b2, b3, b4⟩ := k5 y1
    have hB : B2 + 1 + (y n0).length ≤ (y n0).length + B := by omega
    refine ⟨fun i => if i ≤ n' then y2 i else cmpT s :: y n0, fun i hi => ?_, if_neg (by omega), fun j q1 q2 => ?_, fun j q1 q2 => ?_⟩
    · show (if i ≤ n' then y2 i else _) = _
      rw [if_pos (by omega), b1 i (by omega), a1 i hi]
    · show (if j ≤ n' then y2 j else cmpT s :: y n0).length ≤ _
      by_cases c1 : j ≤ n'
      · rw [if_pos c1]
        by_cases c2 : j ≤ n
        · rw [b1 j c2]
          exact Nat.le_trans (a3 j q1 c2) (by omega)
        · refine Nat.le_trans (b3 j (by omega) c1) ?_
          rw [a2, List.length_cons]
          omega
      · rw [if_neg c1, List.length_cons]
        omega
    · have ee : ∀ i, i ≤ n' → (if i ≤ n' then y2 i else cmpT s :: y n0) = y2 i := fun i hi => if_pos hi
      by_cases c1 : j = n'
      · subst c1
        have e : psh c' j (s, 0) j = (s, 0) := if_pos rfl
        rw [e]
        refine Or.inr (Or.inr (Or.inl ⟨hs, false, false, y n0, ?_, if_neg (by omega)⟩))
        show (if j ≤ j then y2 j else _) = _
        rw [if_pos (Nat.le_refl _), b2, a2]
      · have e : psh c' n' (s, 0) j = c' j := if_neg c1
        rw [e]
        by_cases c2 : n ≤ j
        · exact (b4 j c2 (by omega)).mono (by omega) (by omega) ee
        · rw [k4 j (by omega)]
          exact (a4 j q1 (by omega)).mono (by omega) (by omega) fun i hi => by rw [ee i (by omega)]; exact b1 i hi
theorem Gd.not {L B p0 : Nat} {c0 : CC} {n0 p : Nat} {c : CC} {n q0 : Nat} (g : Gd L true B p0 c0 n0 p c n) (hq : q0 < p0) (hB : 1 ≤ B) : Gd L true B q0 c0 n0 p (psh c n (3, 0)) (n + 1) := by
  obtain ⟨g1, g2, g3, g4, g5⟩ := g
  refine ⟨g1, by omega, by omega, fun i hi => ?_, fun y => ?_⟩
  · show (if i = n then (3, 0) else c i) = _
    rw [if_neg (by omega)]
    exact g4 i hi
  · obtain ⟨y1, a1, a2, a3, a4⟩ := g5 y
    have ee : ∀ i, i ≤ n → (if i ≤ n then y1 i else true :: y n0) = y1 i := fun i hi => if_pos hi
    refine ⟨fun i => if i ≤ n then y1 i else true :: y n0, fun i hi => (ee i (by omega)).trans (a1 i hi), if_neg (by omega), fun j q1 q2 => ?_, fun j q1 q2 => ?_⟩
    · show (if j ≤ n then y1 j else true :: y n0).length ≤ _
      by_cases c1 : j ≤ n
      · rw [if_pos c1]
        exact a3 j q1 c1
      · rw [if_neg c1, List.length_cons]
        omega
    · by_cases c1 : j = n
      · subst c1
        have e : psh c j (3, 0) j = (3, 0) := if_pos rfl
        rw [e]
        exact Or.inr (Or.inr (Or.inr (Or.inl ⟨rfl, y n0, (ee j (Nat.le_refl _)).trans a2, if_neg (by omega)⟩)))
      · have e : psh c n (3, 0) j = c j := if_neg c1
        rw [e]
        exact (a4 j q1 (by omega)).mono (by omega) (by omega) ee
/-- two tests and a jump over the second -/
theorem Gd.jmp {L B p0 : Nat} {c0 : CC} {n0 p : Nat} {c : CC} {n p' : Nat} {c' : CC} {n' : Nat} {kd : Nat} (hk : kd = 4 ∨ kd = 5) (g : Gd L true B p0 c0 n0 p c n) (k : Gd L true B (p + 1) (psh c n (kd, 0)) (n + 1) p' c' n') : Gd L true B p0 c0 n0 p' (aimC c' n n') n' := by
  obtain ⟨g1, g2, g3, g4, g5⟩ := g
  obtain ⟨k1, k2, k3, k4, k5⟩ := k
  have cn : c' n = (kd, 0) := (k4 n (by omega)).trans (if_pos rfl)
  have cl : ∀ i, i < n → c' i = c i := fun i hi => (k4 i (by omega)).trans (if_neg (by omega))
  refine ⟨k1, by omega, by omega, fun i hi => ?_, fun y => ?_⟩
  · show (if i = n then _ else c' i) = _
    rw [if_neg (by omega), cl i (by omega), g4 i hi]
  · obtain ⟨y1, a1, a2, a3, a4⟩ := g5 y
    obtain ⟨y2, b1, b2, b3, b4⟩ := k5 (fun i => if i ≤ n then y1 i else y n0)
    have bz : y2 n' = true :: y n0 := by
      rw [b2, if_neg (show ¬ n + 1 ≤ n by omega)]
    have b1n : y2 (n + 1) = y n0 := (b1 (n + 1) (Nat.le_refl _)).trans (if_neg (by omega))
    have b1l : ∀ i, i ≤ n → y2 i = y1 i := fun i hi => (b1 i (by omega)).trans (if_pos hi)
    refine ⟨y2, fun i hi => (b1l i (by omega)).trans (a1 i hi), bz, fun j q1 q2 => ?_, fun j q1 q2 => ?_⟩
    · by_cases c1 : j ≤ n
      · rw [b1l j c1]
        exact a3 j q1 c1
      · have := b3 j (by omega) q2
        rw [if_neg (show ¬ n + 1 ≤ n by omega)] at this
        exact this
    · by_cases c1 : j = n
      · subst c1
        have e : aimC c' j n' j = (kd, n') := by
          show (if j = j then ((c' j).1, n') else _) = _
          rw [if_pos rfl, cn]
        rw [e]
        exact Or.inr (Or.inr (Or.inr (Or.inr ⟨hk, q2, Nat.le_refl _, y n0, (b1l j (Nat.le_refl _)).trans a2, b1n, by rw [b1l j (Nat.le_refl _), a2]; exact bz⟩)))
      · have e : aimC c' n n' j = c' j := if_neg c1
        rw [e]
        by_cases c2 : n + 1 ≤ j
        · exact b4 j c2 q2
        · rw [cl j (by omega)]
          exact (a4 j q1 (by omega)).mono (by omega) (by omega) b1l
/-- what follows a piece -/
theorem Sp.bd {L : Nat} {tp tp2 : Bool} {B B2 : Nat} {R : Nat → CC → Nat → RC} (h : Sp L tp B R) {f : Nat → CC → Nat → RC} {p : Nat} {c : CC} {n : Nat} (hp : p ≤ L) {p0 : Nat} {c0 : CC} {n0 : Nat} (k : ∀ p' c' n', Gd L tp B p c n p' c' n' → (∃ e, f p' c' n' = Sum.inl e ∧ 0 < e.1 ∧ e.1 < 10 ∧ e.2 ≤ L) ∨ (∃ q, f p' c' n' = Sum.inr q ∧ Gd L tp2 B2 p0 c0 n0 q.1 q.2.1 q.2.2)) : (∃ e, cbd (R p c n) f = Sum.inl e ∧ 0 < e.1 ∧ e.1 < 10 ∧ e.2 ≤ L) ∨ (∃ q, cbd (R p c n) f = Sum.inr q ∧ Gd L tp2 B2 p0 c0 n0 q.1 q.2.1 q.2.2) := by
  rcases h p c n hp with ⟨e, he, z⟩ | ⟨q, hq, g⟩
  · rw [he]
    exact Or.inl ⟨e, rfl, z⟩
  · rw [hq]
    exact k q.1 q.2.1 q.2.2 g
theorem er1 {L f p : Nat} (h0 : 0 < f) (h1 : f < 10) (hp : p ≤ L) {r : RC} (h : r = Sum.inl (f, p)) {P : Nat × CC × Nat → Prop} : (∃ e, r = Sum.inl e ∧ 0 < e.1 ∧ e.1 < 10 ∧ e.2 ≤ L) ∨ (∃ q, r = Sum.inr q ∧ P q) := Or.inl ⟨(f, p), h, h0, h1, hp⟩
theorem blp_sp {t : Nat → Nat} {L B B2 : Nat} {it : Nat → CC → Nat → RC} (h : Sp L false B2 it) (is : Nat → Bool) (hs : ∀ s, is s = true → mulT s = true ∨ addT s = true) (hB : B2 + 1 ≤ B) {p0 : Nat} {c0 : CC} {n0 : Nat} : ∀ f p c n, Gd L false B p0 c0 n0 p c n → (∃ e, blp t L it is f p c n = Sum.inl e ∧ 0 < e.1 ∧ e.1 < 10 ∧ e.2 ≤ L) ∨ (∃ q, blp t L it is f p c n = Sum.inr q ∧ Gd L false B p0 c0 n0 q.1 q.2.1 q.2.2)
  | 0, p, c, n, g => Or.inr ⟨_, rfl, g⟩
  | f + 1, p, c, n, g => by
    unfold blp
    by_cases c1 : p < L ∧ is (t p) = true
    · rw [if_pos c1]
      refine h.bd (by omega) fun p' c' n' k => ?_
      have nc : cmpT (t p) = false := by
        have z := hs _ c1.2
        unfold mulT addT at z
        have z : (t p = 42 ∨ t p = 47 ∨ t p = 37) ∨ (t p = 43 ∨ t p = 45) := z.imp of_decide_eq_true of_decide_eq_true
        exact decide_eq_false (by omega)
      have k2 := g.bin k (by omega) (t p) ((hs _ c1.2).imp id Or.inl) (Nat.le_refl _) hB
      rw [nc] at k2
      exact blp_sp h is hs hB f p' _ _ k2
    · rw [if_neg c1]
      exact Or.inr ⟨_, rfl, g⟩
theorem prd_sp {t : Nat → Nat} {L B : Nat} {it : Nat → CC → Nat → RC} (h : Sp L false B it) : Sp L false (B + 1) (prdT t L it) := fun p c n hp => h.bd hp fun p' c' n' g => blp_sp h mulT (fun s z => Or.inl z) (Nat.le_refl _) 240 p' c' n' (g.le (by omega))
theorem sum_sp {t : Nat → Nat} {L B : Nat} {it : Nat → CC → Nat → RC} (h : Sp L false B it) : Sp L false (B + 2) (sumT t L it) := fun p c n hp => (prd_sp h).bd hp fun p' c' n' g => blp_sp (prd_sp h) addT (fun s z => Or.inr z) (Nat.le_refl _) 240 p' c' n' (g.le (by omega))
theorem cls_sp {t : Nat → Nat} {L s : Nat} {tp : Bool} {B p0 : Nat} {c0 : CC} {n0 p : Nat} {c : CC} {n q0 : Nat} (g : Gd L tp B p0 c0 n0 p c n) (hq : q0 ≤ p0) : (∃ e, clL t L s p c n = Sum.inl e ∧ 0 < e.1 ∧ e.1 < 10 ∧ e.2 ≤ L) ∨ (∃ q, clL t L s p c n = Sum.inr q ∧ Gd L tp B q0 c0 n0 q.1 q.2.1 q.2.2) := by
  unfold clL
  by_cases c1 : p < L ∧ t p = s
  · rw [if_pos c1]
    exact Or.inr ⟨_, rfl, g.far hq (by show p ≤ p + 1; omega) (by show p + 1 ≤ L; omega)⟩
  · rw [if_neg c1]
    exact er1 (by omega) (by omega) g.1 rfl
theorem fct_sp {t : Nat → Nat} {L B : Nat} {op : Bool} {inner : Nat → CC → Nat → RC} (hB : 1 ≤ B) (h : op = true → Sp L false B inner) : Sp L false B (fctT t L op inner) := fun p c n hp => by
  unfold fctT
  by_cases c1 : p < L ∧ t p = 91
  · rw [if_pos c1]
    by_cases c2 : op = true
    · rw [if_pos c2]
      exact (h c2).bd (by omega) fun p' c' n' g => cls_sp g (by omega)
    · rw [if_neg c2]
      exact er1 (by omega) (by omega) hp rfl
  · rw [if_neg c1]
    by_cases c2 : dgT t L p = true
    · rw [if_pos c2]
      have d := dgT_t c2
      rcases numT_ok t L 5 p hp with ⟨e, he, e1, e2, e3⟩ | ⟨q, hq, q1, q2, q3⟩
      · rw [he]
        exact Or.inl ⟨e, rfl, e1, e2, e3⟩
      · rw [hq]
        have q3 : q.2 + 1 ≤ 100000 := q3
        have q4 : p < q.1 := by
          unfold numT at hq
          rw [if_pos c2] at hq
          have o := rdn_ok t L 4 (p + 1) (10 * 0 + t p - 48) d.1
          have e : rdn t L 5 p 0 = rdn t L 4 (p + 1) (10 * 0 + t p - 48) := by rw [rdn_s, if_pos c2]
          by_cases z : dgT t L (rdn t L 5 p 0).1 = true
          · rw [if_pos z] at hq
            exact absurd hq (by simp)
          · rw [if_neg z] at hq
            have : rdn t L 5 p 0 = q := by simpa using hq
            rw [← this, e]
            omega
        exact Or.inr ⟨_, rfl, Gd.one (1, q.2) q4 q2 hB (Or.inl ⟨rfl, by show q.2 < 100000; omega⟩)⟩
    · rw [if_neg c2]
      by_cases c3 : p < L ∧ lkT (t p) = true
      · rw [if_pos c3]
        exact Or.inr ⟨_, rfl, Gd.one (2, t p) (by show p < p + 1; omega) (by show p + 1 ≤ L; omega) hB (Or.inr ⟨rfl, c3.2⟩)⟩
      · rw [if_neg c3]
        exact er1 (by omega) (by omega) hp rfl
theorem fcG_sp (t : Nat → Nat) (L : Nat) : ∀ g, Sp L false (1 + 2 * g) (fcG t L g)
  | 0 => fct_sp (by omega) (fun h => absurd h (by simp))
  | g + 1 => fct_sp (by omega) (fun _ => by
    have := sum_sp (t := t) (fcG_sp t L g)
    rw [show 1 + 2 * (g + 1) = 1 + 2 * g + 2 by omega]
    exact this)
theorem jlp_sp {t : Nat → Nat} {L B : Nat} {it : Nat → CC → Nat → RC} (h : Sp L true B it) {sg kd : Nat} (hk : kd = 4 ∨ kd = 5) {p0 : Nat} {c0 : CC} {n0 : Nat} : ∀ f p c n, Gd L true B p0 c0 n0 p c n → (∃ e, jlp t L it sg kd f p c n = Sum.inl e ∧ 0 < e.1 ∧ e.1 < 10 ∧ e.2 ≤ L) ∨ (∃ q, jlp t L it sg kd f p c n = Sum.inr q ∧ Gd L true B p0 c0 n0 q.1 q.2.1 q.2.2)
  | 0, p, c, n, g => Or.inr ⟨_, rfl, g⟩
  | f + 1, p, c, n, g => by
    unfold jlp
    by_cases c1 : p < L ∧ t p = sg
    · rw [if_pos c1]
      exact h.bd (by omega) fun p' c' n' k => jlp_sp h hk f p' _ _ (g.jmp hk k)
    · rw [if_neg c1]
      exact Or.inr ⟨_, rfl, g⟩
theorem all_sp {t : Nat → Nat} {L B : Nat} {it : Nat → CC → Nat → RC} (h : Sp L true B it) : Sp L true B (allT t L it) := fun p c n hp => h.bd hp fun p' c' n' g => jlp_sp h (Or.inr rfl) 240 p' c' n' g
theorem any_sp {t : Nat → Nat} {L B : Nat} {it : Nat → CC → Nat → RC} (h : Sp L true B it) : Sp L true B (anyT t L it) := fun p c n hp => (all_sp h).bd hp fun p' c' n' g => jlp_sp (all_sp h) (Or.inl rfl) 240 p' c' n' g
theorem cmp_sp {t : Nat → Nat} {L B : Nat} {sm : Nat → CC → Nat → RC} (h : Sp L false B sm) : Sp L true (B + 1) (cmpR t L sm) := fun p c n hp => by
  refine h.bd hp fun p1 c1 n1 g => ?_
  show (∃ e, (if p1 < L ∧ cmpT (t p1) = true then cbd (sm (p1 + 1) c1 n1) (ptst (t p1)) else Sum.inl (1, p1)) = Sum.inl e ∧ _) ∨ (∃ q, (if p1 < L ∧ cmpT (t p1) = true then cbd (sm (p1 + 1) c1 n1) (ptst (t p1)) else Sum.inl (1, p1)) = Sum.inr q ∧ _)
  by_cases z : p1 < L ∧ cmpT (t p1) = true
  · rw [if_pos z]
    refine h.bd (by omega) fun p' c' n' k => Or.inr ⟨_, rfl, ?_⟩
    have := g.bin k (by omega) (t p1) (Or.inr (Or.inr z.2)) (B := B + 1) (by omega) (Nat.le_refl _)
    rw [z.2] at this
    exact this
  · rw [if_neg z]
    exact er1 (by omega) (by omega) g.1 rfl
theorem tst_sp {t : Nat → Nat} {L B : Nat} {op : Bool} {tin ain sm : Nat → CC → Nat → RC} (h1 : op = true → Sp L true (B + 1) tin) (h2 : op = true → Sp L true (B + 1) ain) (h3 : Sp L false B sm) : Sp L true (B + 1) (tstT t L op tin ain sm) := fun p c n hp => by
  unfold tstT
  by_cases c1 : p < L ∧ t p = 33
  · rw [if_pos c1]
    by_cases c2 : op = true
    · rw [if_pos c2]
      exact (h1 c2).bd (by omega) fun p' c' n' g => Or.inr ⟨_, rfl, g.not (by omega) (by omega)⟩
    · rw [if_neg c2]
      exact er1 (by omega) (by omega) hp rfl
  · rw [if_neg c1]
    by_cases c3 : p < L ∧ t p = 40
    · rw [if_pos c3]
      by_cases c2 : op = true
      · rw [if_pos c2]
        exact (h2 c2).bd (by omega) fun p' c' n' g => cls_sp g (by omega)
      · rw [if_neg c2]
        exact er1 (by omega) (by omega) hp rfl
    · rw [if_neg c3]
      exact cmp_sp h3 p c n hp
theorem Sp.le {L : Nat} {tp : Bool} {B B2 : Nat} {R : Nat → CC → Nat → RC} (h : Sp L tp B R) (hB : B ≤ B2) : Sp L tp B2 R := fun p c n hp => (h p c n hp).imp id fun ⟨q, hq, g⟩ => ⟨q, hq, g.le hB⟩
theorem tsG_sp (t : Nat → Nat) (L : Nat) : ∀ g, Sp L true (4 + 2 * g) (tsG t L g)
  | 0 => tst_sp (B := 3) (fun h => absurd h (by simp)) (fun h => absurd h (by simp)) (sum_sp (fcG_sp t L 0))
  | g + 1 => by
    have a := (tsG_sp t L g).le (show 4 + 2 * g ≤ (5 + 2 * g) + 1 by omega)
    have s := sum_sp (t := t) (fcG_sp t L (g + 1))
    have := tst_sp (t := t) (op := true) (B := 5 + 2 * g) (fun _ => a) (fun _ => any_sp (t := t) a) (s.le (by omega))
    rw [show 4 + 2 * (g + 1) = 5 + 2 * g + 1 by omega]
    exact this
