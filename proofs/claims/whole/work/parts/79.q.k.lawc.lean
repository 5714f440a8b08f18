/-! the law's text: the whole of it, the class's reader -/
def upr (a : Nat → RU) (n : Nat) (l : RU) : Nat → RU := fun i => if i = n then l else a i
def aftL (t : Nat → Nat) (L : Nat) (f : Nat → Nat → (Nat → RU) → (Nat × Nat) ⊕ (Nat × (Nat → RU))) (p n : Nat) (a : Nat → RU) : (Nat × Nat) ⊕ (Nat × (Nat → RU)) := if p < L then (if t p = 59 then f (p + 1) n a else Sum.inl (1, p)) else Sum.inr (n, a)
def lawT (t : Nat → Nat) (L : Nat) : Nat → Nat → Nat → (Nat → RU) → (Nat × Nat) ⊕ (Nat × (Nat → RU))
  | 0, p, _, _ => Sum.inl (1, p)
  | f + 1, p, n, a => match rulT t L p n with
    | .inl e => Sum.inl e
    | .inr q => aftL t L (lawT t L f) q.1 (n + 1) (upr a n q.2)
/-- where the rules' stretches begin in the class's steps -/
def bA (a : Nat → RU) : Nat → Nat
  | 0 => 0
  | q + 1 => ctO (bA a q) (a q) + (a q).2.2.1 + 1
theorem ctO_le (st : Nat) (r : RU) : st ≤ ctO st r := by
  unfold ctO
  split <;> omega
theorem bA_up (a : Nat → RU) (m : Nat) (l : RU) : ∀ n, n ≤ m → bA (upr a m l) n = bA a n
  | 0, _ => rfl
  | n + 1, h => by
    have e : upr a m l n = a n := if_neg (by omega)
    show ctO (bA (upr a m l) n) (upr a m l n) + (upr a m l n).2.2.1 + 1 = ctO (bA a n) (a n) + (a n).2.2.1 + 1
    rw [bA_up a m l n (by omega), e]
theorem bA_s (a : Nat → RU) (n : Nat) (l : RU) : bA (upr a n l) (n + 1) = ctO (bA a n) l + l.2.2.1 + 1 := by
  have e : upr a n l n = l := if_pos rfl
  show ctO (bA (upr a n l) n) (upr a n l n) + (upr a n l n).2.2.1 + 1 = _
  rw [bA_up a n l n (Nat.le_refl _), e]
theorem bA_mono (a : Nat → RU) : ∀ n q, q < n → ctO (bA a q) (a q) + (a q).2.2.1 + 1 ≤ bA a n
  | 0, q, h => absurd h (by omega)
  | n + 1, q, h => by
    by_cases e : q = n
    · subst e
      exact Nat.le_refl _
    · have := bA_mono a n q (by omega)
      have l := ctO_le (bA a n) (a n)
      show _ ≤ ctO (bA a n) (a n) + (a n).2.2.1 + 1
      omega
def RuC (dr : Nat) (h : rz_H) (ca q : Nat) (r : RU) : Prop := hI h (dr + 1) q = nI r.1 ∧ hI h (dr + 2) q = nI ca ∧ hI h (dr + 3) q = nI (ctO ca r) ∧ StC dr h (ctO ca r) r.2.2.1 r.2.2.2 ∧ (hasA r.1 = true → StC dr h ca r.2.1.1 r.2.1.2)
def LR (dr : Nat) (h0 h : rz_H) (L p nr : Nat) (a : Nat → RU) : Prop := FE dr h0 h ∧ Rs 81 h L p ∧ hI h dr 5 = nI nr ∧ hI h dr 6 = nI (bA a nr) ∧ bA a nr ≤ p ∧ ∀ q, q < nr → RuC dr h (bA a q) q (a q)
theorem StC.to {dr : Nat} {h h' : rz_H} {cs n : Nat} {c : CC} (s : StC dr h cs n c) (f : ∀ b i, (b = dr + 4 ∨ b = dr + 5) → i ≤ cs + n → hI h' b i = hI h b i) : StC dr h' cs n c := ⟨(f _ _ (Or.inl rfl) (Nat.le_refl _)).trans s.1, fun i hi => ⟨(f _ _ (Or.inl rfl) (by omega)).trans (s.2 i hi).1, (f _ _ (Or.inr rfl) (by omega)).trans (s.2 i hi).2⟩⟩
theorem LR.nx {dr : Nat} (hd : isW dr) {h0 h h' : rz_H} {L p nr : Nat} {a : Nat → RU} (s : LR dr h0 h L p nr a) {q : Nat × RU} (F : FR dr (bA a nr) nr h h') (r : Rs 81 h' L q.1) (a2 : ctO (bA a nr) q.2 + q.2.2.2.1 + 1 ≤ q.1) (a3 : hI h' dr 5 = nI (nr + 1)) (a4 : hI h' dr 6 = nI (ctO (bA a nr) q.2 + q.2.2.2.1 + 1)) (a5 : RuC dr h' (bA a nr) nr q.2) : LR dr h0 h' L q.1 (nr + 1) (upr a nr q.2) := by
  have hdn := isW_n hd
  refine ⟨s.1.tr ⟨F.1, fun b i n1 n2 => F.2 b i (by omega) (by omega) (by omega) (by omega)⟩, r, a3, by rw [bA_s]; exact a4, by rw [bA_s]; exact a2, fun k hk => ?_⟩
  by_cases ek : k = nr
  · subst ek
    have e : upr a k q.2 k = q.2 := if_pos rfl
    rw [e, bA_up a k q.2 k (Nat.le_refl _)]
    exact a5
  · have e : upr a nr q.2 k = a k := if_neg ek
    rw [e, bA_up a nr q.2 k (by omega)]
    obtain ⟨b1, b2, b3, b4, b5⟩ := s.2.2.2.2.2 k (by omega)
    have mo := bA_mono a nr k (by omega)
    refine ⟨(F.2 _ _ (by omega) (by omega) (by omega) (by omega)).trans b1, (F.2 _ _ (by omega) (by omega) (by omega) (by omega)).trans b2, (F.2 _ _ (by omega) (by omega) (by omega) (by omega)).trans b3, b4.to fun b i hb hi => F.2 b i (by omega) (by omega) (by omega) (by omega), fun z => (b5 z).to fun b i hb hi => ?_⟩
    have ct : ctO (bA a k) (a k) = bA a k + (a k).2.1.1 + 1 := if_pos z
    exact F.2 b i (by omega) (by omega) (by omega) (by omega)
theorem C208e {rb dr : Nat} {jd : Option Nat} {h : rz_H} (w : Wf rb dr jd h) (e3 : ¬ hI h 81 3 = 0) (d : Nat) : cW (d + 3) 208 [rz_r (some 81)] h = some (rz_i 0, h) := by
  have n1 : ¬ (-1 : Int32) = 118 := by decide
  have n2 : ¬ (-1 : Int32) = 97 := by decide
  have n3 : ¬ (-1 : Int32) = 108 := by decide
  have n4 : ¬ (-1 : Int32) = 120 := by decide
  rw [X208]
  simp only [bI_some, bV_some, bR_some, bL_some, ob_some, cd_t, cd_f, cd_d, okO_setI, okA_setI, okL_setI, aLen_setI, hR_setI, hI_setI, Bool.true_and, Bool.and_true, Bool.and_self, Option.isNone_some, Option.isSome_some, Option.isNone_none, Option.isSome_none, okO_chI, okA_chI, okL_chI, aLen_chI, hR_chI, ↓reduceIte, not_true_eq_false, not_false_eq_true, eq_self, c10, WLr w, R227e w isR81 e3, X208_3, X208_6, X208_11, X208_13, X208_15, X208_18, X208_21, n1, n2, n3, n4, R232e w isR81 e3, X208_23]
/-- how the class's reading ends -/
def OfL (dr : Nat) (h0 h' : rz_H) (L : Nat) (v : Int32) (z : (Nat × Nat) ⊕ (Nat × (Nat → RU))) : Prop := (∃ e, z = Sum.inl e ∧ v = erI e.1 e.2 ∧ FE dr h0 h') ∨ (∃ q, z = Sum.inr q ∧ v = nI q.1 ∧ 0 < q.1 ∧ q.1 ≤ 16 ∧ ∃ p, p ≤ L ∧ LR dr h0 h' L p q.1 q.2)
theorem T10e {rb dr : Nat} {jd : Option Nat} {h : rz_H} (w : Wf rb dr jd h) {e : Nat × Nat} (s : Re 81 h e) (h0 : 0 < e.1) (h1 : e.1 < 10) (i : Int32) (d : Nat) (j1 : Option rz_V) : rW (d + 3) 207 (10, (0, 0), [some (rz_r (some 81)), j1, some (rz_i i)], [], h) = some (rz_i (erI e.1 e.2), h) := by
  have hd := isW_dr w
  have e3 := s.ne h0 h1
  have b5 := obR (WLr w).2.2.2
  have fin : rW (d + 3) 207 (24, (0, 0), [some (rz_r (some 81)), none, some (rz_i i)], [], h) = some (rz_i (erI e.1 e.2), h) := by
    rw [X207_24]
    simp only [bI_some, bV_some, bR_some, bL_some, ob_some, cd_t, cd_f, cd_d, okO_setI, okA_setI, okL_setI, aLen_setI, hR_setI, hI_setI, Bool.true_and, Bool.and_true, Bool.and_self, Option.isNone_some, Option.isSome_some, Option.isNone_none, Option.isSome_none, okO_chI, okA_chI, okL_chI, aLen_chI, hR_chI, ↓reduceIte, not_true_eq_false, not_false_eq_true, eq_self, c10, WLr w, ↓b5, WLw w hd, E194, R234e w isR81 s.1 h0 h1 s.2]
  rw [X207_10]
  by_cases c : (16 : Int32) ≤ i
  · simp only [bI_some, bV_some, bR_some, bL_some, ob_some, cd_t, cd_f, cd_d, okO_setI, okA_setI, okL_setI, aLen_setI, hR_setI, hI_setI, Bool.true_and, Bool.and_true, Bool.and_self, Option.isNone_some, Option.isSome_some, Option.isNone_none, Option.isSome_none, okO_chI, okA_chI, okL_chI, aLen_chI, hR_chI, ↓reduceIte, not_true_eq_false, not_false_eq_true, eq_self, c10, c]
    exact fin
  · simp only [bI_some, bV_some, bR_some, bL_some, ob_some, cd_t, cd_f, cd_d, okO_setI, okA_setI, okL_setI, aLen_setI, hR_setI, hI_setI, Bool.true_and, Bool.and_true, Bool.and_self, Option.isNone_some, Option.isSome_some, Option.isNone_none, Option.isSome_none, okO_chI, okA_chI, okL_chI, aLen_chI, hR_chI, ↓reduceIte, not_true_eq_false, not_false_eq_true, eq_self, c10, c]
    rw [X207_13]
    simp only [bI_some, bV_some, bR_some, bL_some, ob_some, cd_t, cd_f, cd_d, okO_setI, okA_setI, okL_setI, aLen_setI, hR_setI, hI_setI, Bool.true_and, Bool.and_true, Bool.and_self, Option.isNone_some, Option.isSome_some, Option.isNone_none, Option.isSome_none, okO_chI, okA_chI, okL_chI, aLen_chI, hR_chI, ↓reduceIte, not_true_eq_false, not_false_eq_true, eq_self, c10, WLr w, R227e w isR81 e3]
    exact fin
theorem T10 {rb dr : Nat} {jd : Option Nat} {h0 : rz_H} (w0 : Wf rb dr jd h0) {N : Nat} {t : Nat → Nat} (T0 : Tq h0 N t) {L : Nat} (hL : L ≤ N) (h240 : L ≤ 240) (d : Nat) : ∀ f i h p n a, i + f = 16 → n = i + 1 → n ≤ 16 → LR dr h0 h L p n a → p ≤ L → ∃ v h', (∀ j1, rW (d + 25) 207 (10, (0, 0), [some (rz_r (some 81)), j1, some (rz_i (nI i))], [], h) = some (rz_i v, h')) ∧ OfL dr h0 h' L v (aftL t L (lawT t L f) p n a) := by
  intro f
  induction f with
  | zero => intro i h p n a hi hn h16; omega
  | succ f ih =>
    intro i h p n a hi hni hn S hp
    have hd := isW_dr w0
    have hdn := isW_n hd
    have w : Wf rb dr jd h := w0.e S.1.1
    have T := T0.fe hd S.1
    have s := S.2.1
    have hN := T.1.1
    have pk := fun d => R227 w isR81 T hL s.1 s.2.1 (by omega) s.2.2 d
    have g16 : ¬ (16 : Int32) ≤ nI i := nI_ge (b := 16) (by omega) (by omega)
    have e233 : ∀ d, cW (d + 3) 233 [rz_r (some 81), rz_i 59] h = if p < L ∧ t p = 59 then some (rz_i 0, setI h 81 2 (nI (p + 1))) else some (rz_i 0, setI (setI h 81 3 1) 81 4 (nI p)) := fun d => R233 w isR81 T hL s.1 s.2.1 (by omega) s.2.2 (m := 59) (by omega) d
    unfold aftL
    by_cases c : p < L
    · rw [if_pos c]
      have tb := (T.1.2 p (by omega)).1
      have ne : ¬ nI (t p) = (-1 : Int32) := ne_m1 (by omega)
      have st : ∀ j1, rW (d + 25) 207 (10, (0, 0), [some (rz_r (some 81)), j1, some (rz_i (nI i))], [], h) = rW (d + 25) 207 (17, (0, 0), [some (rz_r (some 81)), none, some (rz_i (nI i))], [], h) := fun j1 => by
        rw [X207_10]
        simp only [bI_some, bV_some, bR_some, bL_some, ob_some, cd_t, cd_f, cd_d, okO_setI, okA_setI, okL_setI, aLen_setI, hR_setI, hI_setI, Bool.true_and, Bool.and_true, Bool.and_self, Option.isNone_some, Option.isSome_some, Option.isNone_none, Option.isSome_none, okO_chI, okA_chI, okL_chI, aLen_chI, hR_chI, ↓reduceIte, not_true_eq_false, not_false_eq_true, eq_self, c10, g16]
        rw [X207_13, pk, pkk_in c]
        simp only [bI_some, bV_some, bR_some, bL_some, ob_some, cd_t, cd_f, cd_d, okO_setI, okA_setI, okL_setI, aLen_setI, hR_setI, hI_setI, Bool.true_and, Bool.and_true, Bool.and_self, Option.isNone_some, Option.isSome_some, Option.isNone_none, Option.isSome_none, okO_chI, okA_chI, okL_chI, aLen_chI, hR_chI, ↓reduceIte, not_true_eq_false, not_false_eq_true, eq_self, c10, WLr w, ne]
      by_cases c2 : t p = 59
      · rw [if_pos c2]
        have w1 : Wf rb dr jd (setI h 81 2 (nI (p + 1))) := w
        have o1 : ∀ b i, b ≠ 81 → hI (setI h 81 2 (nI (p + 1))) b i = hI h b i := fun b i z => by rw [hI_setI, if_neg (by omega)]
        have f1 : FE dr h (setI h 81 2 (nI (p + 1))) := ⟨rfl, fun b i n1 _ => o1 b i n1⟩
        have S1 : LR dr h0 (setI h 81 2 (nI (p + 1))) L (p + 1) n a := ⟨S.1.tr f1, s.go (p + 1), (o1 _ _ (by omega)).trans S.2.2.1, (o1 _ _ (by omega)).trans S.2.2.2.1, by have := S.2.2.2.2.1; omega, fun q hq => by
          obtain ⟨b1, b2, b3, b4, b5⟩ := S.2.2.2.2.2 q hq
          exact ⟨(o1 _ _ (by omega)).trans b1, (o1 _ _ (by omega)).trans b2, (o1 _ _ (by omega)).trans b3, b4.to fun b i hb _ => o1 b i (by omega), fun z => (b5 z).to fun b i hb _ => o1 b i (by omega)⟩⟩
        obtain ⟨h2, e2, o2⟩ := C208 w1 (T0.fe hd S1.1) hL h240 S1.2.1 (by omega) S1.2.2.2.1 S1.2.2.2.2.1 S1.2.2.1 hn d
        have st2 : ∀ j1, rW (d + 25) 207 (10, (0, 0), [some (rz_r (some 81)), j1, some (rz_i (nI i))], [], h) = rW (d + 25) 207 (10, (0, 0), [some (rz_r (some 81)), none, some (rz_i (nI (i + 1)))], [], h2) := fun j1 => by
          rw [st j1, X207_17]
          simp only [bI_some, bV_some, bR_some, bL_some, ob_some, cd_t, cd_f, cd_d, okO_setI, okA_setI, okL_setI, aLen_setI, hR_setI, hI_setI, Bool.true_and, Bool.and_true, Bool.and_self, Option.isNone_some, Option.isSome_some, Option.isNone_none, Option.isSome_none, okO_chI, okA_chI, okL_chI, aLen_chI, hR_chI, ↓reduceIte, not_true_eq_false, not_false_eq_true, eq_self, c10, WLr w, e233, if_pos (show p < L ∧ t p = 59 from ⟨c, c2⟩)]
          rw [X207_20, e2]
          simp only [bV_some, cd_t, (WLr w1).1, X207_22, X207_23, nI_1]
        show ∃ v h', _ ∧ OfL dr h0 h' L v (match rulT t L (p + 1) n with
          | .inl e => Sum.inl e
          | .inr q => aftL t L (lawT t L f) q.1 (n + 1) (upr a n q.2))
        rcases o2 with ⟨e, he, le⟩ | ⟨q, hq, z0, F, r4, a1, a2, a3, a4, a5, a6, a7, a8, a9⟩
        · rw [he]
          have le := le.bs S1.1
          have w2 : Wf rb dr jd h2 := w0.e le.1.1
          exact ⟨_, h2, fun j1 => (st2 j1).trans (T10e w2 le.2.1 le.2.2.1 le.2.2.2 _ (d + 22) _), Or.inl ⟨e, rfl, rfl, le.1⟩⟩
        · rw [hq]
          have S2 := S1.nx hd F r4 a2 a3 a4 ⟨a5, a6, a7, a8, a9⟩
          obtain ⟨v, h', e, o⟩ := ih (i + 1) h2 q.1 (n + 1) (upr a n q.2) (by omega) (by omega) (by omega) S2 a1
          exact ⟨v, h', fun j1 => (st2 j1).trans (e _), o⟩
      · rw [if_neg c2]
        have w1 : Wf rb dr jd (setI (setI h 81 3 1) 81 4 (nI p)) := w
        have s1 : Re 81 (setI (setI h 81 3 1) 81 4 (nI p)) (1, p) := Re.bl 81 h 1 p
        have e3 := s1.ne (by show 0 < 1; omega) (by show 1 < 10; omega)
        refine ⟨_, setI (setI h 81 3 1) 81 4 (nI p), fun j1 => ?_, Or.inl ⟨_, rfl, rfl, S.1.tr ⟨rfl, fun b i z _ => by rw [hI_setI, if_neg (by omega), hI_setI, if_neg (by omega)]⟩⟩⟩
        rw [st j1, X207_17]
        simp only [bI_some, bV_some, bR_some, bL_some, ob_some, cd_t, cd_f, cd_d, okO_setI, okA_setI, okL_setI, aLen_setI, hR_setI, hI_setI, Bool.true_and, Bool.and_true, Bool.and_self, Option.isNone_some, Option.isSome_some, Option.isNone_none, Option.isSome_none, okO_chI, okA_chI, okL_chI, aLen_chI, hR_chI, ↓reduceIte, not_true_eq_false, not_false_eq_true, eq_self, c10, WLr w, e233, if_neg (show ¬ (p < L ∧ t p = 59) from fun z => c2 z.2)]
        rw [X207_20, C208e w1 e3]
        simp only [bV_some, cd_t, (WLr w1).1, X207_22, X207_23]
        exact T10e w1 s1 (by show 0 < 1; omega) (by show 1 < 10; omega) _ (d + 22) _
    · rw [if_neg c]
      refine ⟨nI n, h, fun j1 => ?_, Or.inr ⟨_, rfl, rfl, by show 0 < n; omega, hn, p, hp, S⟩⟩
      have b5 := obR (WLr w).2.2.2
      rw [X207_10]
      simp only [bI_some, bV_some, bR_some, bL_some, ob_some, cd_t, cd_f, cd_d, okO_setI, okA_setI, okL_setI, aLen_setI, hR_setI, hI_setI, Bool.true_and, Bool.and_true, Bool.and_self, Option.isNone_some, Option.isSome_some, Option.isNone_none, Option.isSome_none, okO_chI, okA_chI, okL_chI, aLen_chI, hR_chI, ↓reduceIte, not_true_eq_false, not_false_eq_true, eq_self, c10, g16]
      rw [X207_13, pk, pkk_out c]
      simp only [bI_some, bV_some, bR_some, bL_some, ob_some, cd_t, cd_f, cd_d, okO_setI, okA_setI, okL_setI, aLen_setI, hR_setI, hI_setI, Bool.true_and, Bool.and_true, Bool.and_self, Option.isNone_some, Option.isSome_some, Option.isNone_none, Option.isSome_none, okO_chI, okA_chI, okL_chI, aLen_chI, hR_chI, ↓reduceIte, not_true_eq_false, not_false_eq_true, eq_self, c10, WLr w]
      rw [X207_24]
      simp only [bI_some, bV_some, bR_some, bL_some, ob_some, cd_t, cd_f, cd_d, okO_setI, okA_setI, okL_setI, aLen_setI, hR_setI, hI_setI, Bool.true_and, Bool.and_true, Bool.and_self, Option.isNone_some, Option.isSome_some, Option.isNone_none, Option.isSome_none, okO_chI, okA_chI, okL_chI, aLen_chI, hR_chI, ↓reduceIte, not_true_eq_false, not_false_eq_true, eq_self, c10, WLr w, ↓b5, WLw w hd, E194, S.2.2.1, R234 w isR81 s.2.2]
theorem C207 {rb dr : Nat} {jd : Option Nat} {h : rz_H} (w : Wf rb dr jd h) {N : Nat} {t : Nat → Nat} (T : Tq h N t) {L : Nat} (hL : L ≤ N) (h240 : L ≤ 240) (a : Nat → RU) (d : Nat) : ∃ v h', cW (d + 26) 207 [rz_r (some 81), rz_i (nI L)] h = some (rz_i v, h') ∧ OfL dr h h' L v (lawT t L 17 0 0 a) := by
  have hd := isW_dr w
  have hdn := isW_n hd
  let h1 := setI (setI (setI (setI h 81 1 (nI L)) 81 2 0) 81 3 0) 81 4 0
  let h2 := setI (setI h1 dr 5 0) dr 6 0
  have w1 : Wf rb dr jd h1 := w
  have w2 : Wf rb dr jd h2 := w
  have o2 : ∀ b i, b ≠ 81 → b ≠ dr → hI h2 b i = hI h b i := fun b i z z2 => by
    show hI (setI (setI (setI (setI (setI (setI h 81 1 (nI L)) 81 2 0) 81 3 0) 81 4 0) dr 5 0) dr 6 0) b i = _
    rw [hI_setI, if_neg (by omega), hI_setI, if_neg (by omega), hI_setI, if_neg (by omega), hI_setI, if_neg (by omega), hI_setI, if_neg (by omega), hI_setI, if_neg (by omega)]
  have v81 : Rs 81 h2 L 0 := by
    have z : ∀ i, hI h2 81 i = hI h1 81 i := fun i => by
      show hI (setI (setI h1 dr 5 0) dr 6 0) 81 i = _
      rw [hI_setI, if_neg (by omega), hI_setI, if_neg (by omega)]
    exact ⟨(z 1).trans rfl, (z 2).trans rfl, (z 3).trans rfl⟩
  have v5 : hI h2 dr 5 = nI 0 := by
    show hI (setI (setI h1 dr 5 0) dr 6 0) dr 5 = _
    rw [hI_setI, if_neg (by omega), hI_setI, if_pos ⟨rfl, rfl⟩]
    rfl
  have v6 : hI h2 dr 6 = nI 0 := by
    show hI (setI (setI h1 dr 5 0) dr 6 0) dr 6 = _
    rw [hI_setI, if_pos ⟨rfl, rfl⟩]
    rfl
  have S2 : LR dr h h2 L 0 0 a := ⟨⟨rfl, fun b i z z2 => o2 b i z (by omega)⟩, v81, v5, v6, by show 0 ≤ 0; omega, fun q hq => absurd hq (by omega)⟩
  obtain ⟨h3, e3, o3⟩ := C208 w2 (T.fe hd S2.1) hL h240 v81 (by omega) v6 (by omega) v5 (by omega) d
  have b5 := obR (WLr w1).2.2.2
  have e193 : ∀ d, cW (d + 1) 193 [rz_r (some dr)] h1 = some (rz_i 0, h2) := fun d => by
    rw [E193]
    have o := (WLw w1 hd).1
    simp only [cd_t, okO_setI, o]
    rfl
  have st : cW (d + 26) 207 [rz_r (some 81), rz_i (nI L)] h = rW (d + 25) 207 (10, (0, 0), [some (rz_r (some 81)), some (rz_i (nI L)), some (rz_i (nI 0))], [], h3) := by
    rw [X207]
    simp only [bI_some, bV_some, bR_some, bL_some, ob_some, cd_t, cd_f, cd_d, okO_setI, okA_setI, okL_setI, aLen_setI, hR_setI, hI_setI, Bool.true_and, Bool.and_true, Bool.and_self, Option.isNone_some, Option.isSome_some, Option.isNone_none, Option.isSome_none, okO_chI, okA_chI, okL_chI, aLen_chI, hR_chI, ↓reduceIte, not_true_eq_false, not_false_eq_true, eq_self, c10, WLr w, R226 w isR81]
    rw [show setI (setI (setI (setI h 81 1 (nI L)) 81 2 0) 81 3 0) 81 4 0 = h1 from rfl, X207_3]
    have o1 := (WLr w1).1
    have o4 := (WLw w1 hd).1
    generalize h1 = g1 at *
    simp only [bI_some, bV_some, bR_some, bL_some, ob_some, cd_t, cd_f, cd_d, okO_setI, okA_setI, okL_setI, aLen_setI, hR_setI, hI_setI, Bool.true_and, Bool.and_true, Bool.and_self, Option.isNone_some, Option.isSome_some, Option.isNone_none, Option.isSome_none, okO_chI, okA_chI, okL_chI, aLen_chI, hR_chI, ↓reduceIte, not_true_eq_false, not_false_eq_true, eq_self, c10, o1, ↓b5, o4, e193]
    rw [X207_6, e3]
    simp only [bV_some, cd_t, (WLr w2).1, X207_8]
    rfl
  rw [st]
  show ∃ v h', _ ∧ OfL dr h h' L v (match rulT t L 0 0 with
    | .inl e => Sum.inl e
    | .inr q => aftL t L (lawT t L 16) q.1 (0 + 1) (upr a 0 q.2))
  rcases o3 with ⟨e, he, le⟩ | ⟨q, hq, z0, F, r4, a1, a2, a3, a4, a5, a6, a7, a8, a9⟩
  · rw [he]
    have le := le.bs S2.1
    have w3 : Wf rb dr jd h3 := w.e le.1.1
    exact ⟨_, h3, T10e w3 le.2.1 le.2.2.1 le.2.2.2 _ (d + 22) _, Or.inl ⟨e, rfl, rfl, le.1⟩⟩
  · rw [hq]
    have S3 := S2.nx hd F r4 a2 a3 a4 ⟨a5, a6, a7, a8, a9⟩
    obtain ⟨v, h', e, o⟩ := T10 w T hL h240 d 16 0 h3 q.1 (0 + 1) (upr a 0 q.2) (by omega) (by omega) (by omega) S3 a1
    exact ⟨v, h', e _, o⟩
