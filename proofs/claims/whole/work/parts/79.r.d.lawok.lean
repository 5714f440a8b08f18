/-! the law's text: what was read is sound -/
def TyC (tp : Bool) (n : Nat) (c : CC) : Prop := ∃ y : Nat → List Bool, y 0 = [] ∧ y n = [tp] ∧ (∀ j, j ≤ n → (y j).length ≤ 60) ∧ ∀ j, j < n → OpP (c j) n j y
theorem Gd.ty {L : Nat} {tp : Bool} {B p0 : Nat} {c0 : CC} {p : Nat} {c : CC} {n : Nat} (g : Gd L tp B p0 c0 0 p c n) (hB : B ≤ 60) : TyC tp n c := by
  obtain ⟨y, a, b, d, e⟩ := g.2.2.2.2 (fun _ => [])
  refine ⟨y, a 0 (Nat.le_refl _), b, fun j hj => ?_, fun j hj => e j (by omega) hj⟩
  have := d j (by omega) hj
  rw [List.length_nil] at this
  omega
def RuG (r : RU) : Prop := isRl r.1 = true ∧ TyC true r.2.2.1 r.2.2.2 ∧ (hasA r.1 = true → TyC false r.2.1.1 r.2.1.2)
def RuO (t : Nat → Nat) (L : Nat) (z : (Nat × Nat) ⊕ (Nat × RU)) : Prop := (∃ e, z = Sum.inl e ∧ 0 < e.1 ∧ e.1 < 10 ∧ e.2 ≤ L) ∨ (∃ q, z = Sum.inr q ∧ q.1 ≤ L ∧ RuG q.2)
theorem tail_ok {t : Nat → Nat} {L s p : Nat} {A : Nat × CC} (hp : p ≤ L) (hs : isRl s = true) (hA : hasA s = true → TyC false A.1 A.2) : RuO t L (tailT t L s A p) := by
  unfold tailT
  by_cases z : p < L ∧ t p = 40
  · rw [if_pos z]
    have sp := any_sp (t := t) (tsG_sp t L 5)
    rcases sp (p + 1) czz 0 (by omega) with ⟨e, he, b⟩ | ⟨q, hq, g⟩
    · rw [he]
      exact Or.inl ⟨e, rfl, b⟩
    · rw [hq]
      show RuO t L (if q.1 < L ∧ t q.1 = 41 then Sum.inr (q.1 + 1, s, A, (q.2.2, q.2.1)) else Sum.inl (1, q.1))
      by_cases y : q.1 < L ∧ t q.1 = 41
      · rw [if_pos y]
        exact Or.inr ⟨_, rfl, by show q.1 + 1 ≤ L; omega, hs, g.ty (by omega), hA⟩
      · rw [if_neg y]
        exact Or.inl ⟨_, rfl, by show 0 < 1; omega, by show 1 < 10; omega, g.1⟩
  · rw [if_neg z]
    exact Or.inl ⟨_, rfl, by show 0 < 1; omega, by show 1 < 10; omega, hp⟩
theorem rul_ok {t : Nat → Nat} {L p nr : Nat} (hp : p ≤ L) : RuO t L (rulT t L p nr) := by
  unfold rulT
  by_cases z : p < L ∧ isRl (t p) = true
  · rw [if_pos z]
    by_cases n16 : nr < 16
    · rw [if_pos n16]
      by_cases ha : hasA (t p) = true
      · rw [if_pos ha]
        have sp := sum_sp (t := t) (fcG_sp t L 6)
        rcases sp (p + 1) czz 0 (by omega) with ⟨e, he, b⟩ | ⟨q, hq, g⟩
        · rw [he]
          exact Or.inl ⟨e, rfl, b⟩
        · rw [hq]
          exact tail_ok g.1 z.2 (fun _ => g.ty (by omega))
      · rw [if_neg ha]
        exact tail_ok (by omega) z.2 (fun y => absurd y ha)
    · rw [if_neg n16]
      exact Or.inl ⟨_, rfl, by show 0 < 4; omega, by show 4 < 10; omega, hp⟩
  · rw [if_neg z]
    exact Or.inl ⟨_, rfl, by show 0 < 1; omega, by show 1 < 10; omega, hp⟩
def LwO (L : Nat) (z : (Nat × Nat) ⊕ (Nat × (Nat → RU))) : Prop := (∃ e, z = Sum.inl e ∧ 0 < e.1 ∧ e.1 < 10 ∧ e.2 ≤ L) ∨ (∃ q, z = Sum.inr q ∧ ∀ i, i < q.1 → RuG (q.2 i))
theorem law_ok (t : Nat → Nat) (L : Nat) : ∀ f p n a, p ≤ L → (∀ i, i < n → RuG (a i)) → LwO L (lawT t L f p n a)
  | 0, p, n, a, hp, _ => Or.inl ⟨_, rfl, by show 0 < 1; omega, by show 1 < 10; omega, hp⟩
  | f + 1, p, n, a, hp, ha => by
    show LwO L (match rulT t L p n with
      | .inl e => Sum.inl e
      | .inr q => aftL t L (lawT t L f) q.1 (n + 1) (upr a n q.2))
    rcases rul_ok (t := t) (nr := n) hp with ⟨e, he, b⟩ | ⟨q, hq, q1, g⟩
    · rw [he]
      exact Or.inl ⟨e, rfl, b⟩
    · rw [hq]
      have ha' : ∀ i, i < n + 1 → RuG (upr a n q.2 i) := fun i hi => by
        show RuG (if i = n then q.2 else a i)
        by_cases ei : i = n
        · rw [if_pos ei]
          exact g
        · rw [if_neg ei]
          exact ha i (by omega)
      show LwO L (if q.1 < L then (if t q.1 = 59 then lawT t L f (q.1 + 1) (n + 1) (upr a n q.2) else Sum.inl (1, q.1)) else Sum.inr (n + 1, upr a n q.2))
      by_cases c : q.1 < L
      · rw [if_pos c]
        by_cases c2 : t q.1 = 59
        · rw [if_pos c2]
          exact law_ok t L f (q.1 + 1) (n + 1) _ (by omega) ha'
        · rw [if_neg c2]
          exact Or.inl ⟨_, rfl, by show 0 < 1; omega, by show 1 < 10; omega, q1⟩
      · rw [if_neg c]
        exact Or.inr ⟨_, rfl, ha'⟩
/-! the new law in both -/
theorem lk_get {s : Nat} (h : lkT s = true) : [107, 112, 110, 117, 102, 115, 103, 116, 119].getD (lkN s) 0 = s := by
  have z : s = 107 ∨ s = 112 ∨ s = 110 ∨ s = 117 ∨ s = 102 ∨ s = 115 ∨ s = 103 ∨ s = 116 ∨ s = 119 := of_decide_eq_true h
  rcases z with rfl | rfl | rfl | rfl | rfl | rfl | rfl | rfl | rfl <;> rfl
theorem op_R {o : Nat × Nat} {n j : Nat} {y : Nat → List Bool} (p : OpP o n j y) (cs ms : Nat) : OpR (nI o.1) (nI (vlC cs o)) cs (nI (encM ms o)) ms n j y := by
  obtain ⟨k, v⟩ := o
  rcases p with ⟨a, b, c⟩ | ⟨a, b, c⟩ | ⟨a, p, q, r, b, c⟩ | ⟨a, r, b, c⟩ | ⟨a, b, c, r, q1, q2, q3⟩
  · have a : k = 1 := a
    subst a
    exact Or.inl ⟨v, b, rfl, rfl, rfl, c⟩
  · have a : k = 2 := a
    subst a
    have b : lkT v = true := b
    exact Or.inr (Or.inl ⟨lkN v, lkN_lt v, rfl, by rw [lk_get b]; rfl, rfl, c⟩)
  · have a : mulT k = true ∨ addT k = true ∨ cmpT k = true := a
    have z : k = 43 ∨ k = 45 ∨ k = 42 ∨ k = 47 ∨ k = 37 ∨ k = 60 ∨ k = 62 ∨ k = 61 := by
      rcases a with a | a | a
      · have : k = 42 ∨ k = 47 ∨ k = 37 := of_decide_eq_true a
        omega
      · have : k = 43 ∨ k = 45 := of_decide_eq_true a
        omega
      · have : k = 60 ∨ k = 62 ∨ k = 61 := of_decide_eq_true a
        omega
    have c : y (j + 1) = cmpT k :: r := c
    refine Or.inr (Or.inr (Or.inl ?_))
    rcases z with rfl | rfl | rfl | rfl | rfl | rfl | rfl | rfl
    · exact ⟨0, p, q, r, by omega, rfl, rfl, b, c⟩
    · exact ⟨1, p, q, r, by omega, rfl, rfl, b, c⟩
    · exact ⟨2, p, q, r, by omega, rfl, rfl, b, c⟩
    · exact ⟨3, p, q, r, by omega, rfl, rfl, b, c⟩
    · exact ⟨4, p, q, r, by omega, rfl, rfl, b, c⟩
    · exact ⟨5, p, q, r, by omega, rfl, rfl, b, c⟩
    · exact ⟨6, p, q, r, by omega, rfl, rfl, b, c⟩
    · exact ⟨7, p, q, r, by omega, rfl, rfl, b, c⟩
  · have a : k = 3 := a
    subst a
    exact Or.inr (Or.inr (Or.inr (Or.inl ⟨r, rfl, rfl, b, c⟩)))
  · have a : k = 4 ∨ k = 5 := a
    have b : j < v := b
    have c : v ≤ n := c
    have e1 : vlC cs (k, v) = cs + v := if_pos ⟨a, by show 0 < v; omega⟩
    have e2 : encM ms (k, v) = 1048576 * (16 - k) + (ms + v) := by
      rw [enc_j a, if_pos (by omega)]
    rw [e1, e2]
    rcases a with rfl | rfl
    · exact Or.inr (Or.inr (Or.inr (Or.inr (Or.inr ⟨v, r, rfl, rfl, rfl, q1, q2, b, c, q3⟩))))
    · exact Or.inr (Or.inr (Or.inr (Or.inr (Or.inl ⟨v, r, rfl, rfl, rfl, q1, q2, b, c, q3⟩))))
theorem co_R {h : rz_H} {w cs ms n : Nat} {tp : Bool} {c : CC} (s : StC w h cs n c) (m : ∀ i, i < n → hI h 120 (ms + i) = nI (encM ms (c i))) (g : TyC tp n c) (h1 : cs + n < 256) (h2 : ms + n ≤ 260) : CoRel h w cs ms n tp := by
  obtain ⟨y, a, b, d, e⟩ := g
  refine ⟨h1, h2, s.1, y, a, b, d, fun j hj => ?_⟩
  obtain ⟨s1, s2⟩ := s.2 j hj
  rw [s1, s2, m j hj]
  exact op_R (e j hj) cs ms
theorem lw_R {h : rz_H} {w n L : Nat} {a : Nat → RU} (hn : n ≤ 16) (hL : L ≤ 240) (e5 : hI h w 5 = nI n) (e13 : hI h 109 13 = nI n) (e6 : hI h w 6 = nI (bA a n)) (l1 : bA a n ≤ L) (l2 : bMl a n ≤ L) (C : ∀ q, q < n → RuC w h (bA a q) q (a q)) (M : ∀ q, q < n → RuM 121 h (bMl a q) q (a q) ∧ CoM 120 h (bMl a q) (a q)) (G : ∀ q, q < n → RuG (a q)) : LwRel h w := by
  refine ⟨n, bA a n, hn, by omega, e5, e13, e6, fun q hq => ?_⟩
  obtain ⟨c1, c2, c3, c4, c5⟩ := C q hq
  obtain ⟨⟨m1, m2, m3, m4⟩, m5, m6⟩ := M q hq
  obtain ⟨g1, g2, g3⟩ := G q hq
  have mA := bA_mono a n q hq
  have mM := bMl_mono a n q hq
  have lt := ctO_le (bA a q) (a q)
  have r256 : (a q).1 < 256 := by
    have : (a q).1 = 118 ∨ (a q).1 = 97 ∨ (a q).1 = 108 ∨ (a q).1 = 120 := of_decide_eq_true g1
    omega
  have m1 : hI h 121 q = nI (a q).1 := m1
  refine ⟨bA a q, ctO (bA a q) (a q), bMl a q, bMl a q + (a q).2.1.1, bMl a q + (a q).2.1.1 + (a q).2.2.1, c1.trans m1.symm, c2, c3, m2, m3, m4, by omega, by omega, ?_, by omega, fun hx => ?_⟩
  · rw [Nat.add_sub_cancel_left]
    exact co_R c4 m6 g2 (by omega) (by omega)
  · have ha : hasA (a q).1 = true := by
      refine decide_eq_true ?_
      rw [m1] at hx
      rcases hx with hx | hx
      · exact Or.inl ((nI_eq (a := (a q).1) (b := 118) (by omega) (by omega)).mp hx)
      · exact Or.inr ((nI_eq (a := (a q).1) (b := 97) (by omega) (by omega)).mp hx)
    have ec : ctO (bA a q) (a q) = bA a q + (a q).2.1.1 + 1 := if_pos ha
    rw [Nat.add_sub_cancel_left]
    exact ⟨co_R (c5 ha) m5 (g3 ha) (by omega) (by omega), by omega⟩
