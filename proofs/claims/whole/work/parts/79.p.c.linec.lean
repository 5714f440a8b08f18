/-! orders: the class's reader -/
def sgT (s : Nat) : Bool := decide (s = 33 ∨ s = 63 ∨ s = 64 ∨ s = 35 ∨ s = 43 ∨ s = 45)
/-- an order: a fault, or place, number, picture -/
def orT (t : Nat → Nat) (L F p : Nat) : (Nat × Nat) ⊕ (Nat × Nat × Nat) :=
  if p + 1 < L ∧ sgT (t (p + 1)) = true then (if F = 0 then Sum.inl (7, p) else if t (p + 1) = 33 ∨ t (p + 1) = 63 then Sum.inr (p + 2, 0, 16) else match numT t L 3 (p + 2) with
    | .inl e => Sum.inl e
    | .inr q => if (t (p + 1) = 64 ∨ t (p + 1) = 35) ∧ F ≤ q.2 then Sum.inl (3, p + 2) else if t (p + 1) = 35 then (if q.1 < L ∧ t q.1 = 61 then (match pcT t L (q.1 + 1) with
      | none => Sum.inl (1, q.1 + 1)
      | some c => Sum.inr (q.1 + 2, q.2, c)) else Sum.inl (1, q.1)) else Sum.inr (q.1, q.2, 16)) else Sum.inl (1, p + 1)
def oOk (t : Nat → Nat) (L F p : Nat) (z : (Nat × Nat) ⊕ (Nat × Nat × Nat)) : Prop := (∃ e, z = Sum.inl e ∧ 0 < e.1 ∧ e.1 < 10 ∧ e.2 ≤ L) ∨ (∃ q, z = Sum.inr q ∧ p + 1 < L ∧ sgT (t (p + 1)) = true ∧ 0 < F ∧ p + 2 ≤ q.1 ∧ q.1 ≤ L ∧ q.2.1 < 1000 ∧ q.2.2 ≤ 16 ∧ (t (p + 1) = 64 ∨ t (p + 1) = 35 → q.2.1 < F))
theorem orT_ok (t : Nat → Nat) (L F p : Nat) (hp : p < L) : oOk t L F p (orT t L F p) := by
  have er : ∀ f q, 0 < f → f < 10 → q ≤ L → oOk t L F p (Sum.inl (f, q)) := fun f q a b c => Or.inl ⟨(f, q), rfl, a, b, c⟩
  unfold orT
  split
  · rename_i c
    split
    · exact er _ _ (by omega) (by omega) (by omega)
    · rename_i hF
      split
      · rename_i c2
        exact Or.inr ⟨(p + 2, 0, 16), rfl, c.1, c.2, by omega, by show p + 2 ≤ p + 2; omega, by show p + 2 ≤ L; omega, by show 0 < 1000; omega, by show 16 ≤ 16; omega, fun q => by omega⟩
      · rcases numT_ok t L 3 (p + 2) (by omega) with ⟨e, he, e1, e2, e3⟩ | ⟨q, hq, q1, q2, q3⟩
        · rw [he]
          exact er e.1 e.2 e1 e2 e3
        · rw [hq]
          have q3 : q.2 + 1 ≤ 1000 := q3
          show oOk t L F p (if (t (p + 1) = 64 ∨ t (p + 1) = 35) ∧ F ≤ q.2 then Sum.inl (3, p + 2) else if t (p + 1) = 35 then (if q.1 < L ∧ t q.1 = 61 then (match pcT t L (q.1 + 1) with
      | none => Sum.inl (1, q.1 + 1)
      | some c => Sum.inr (q.1 + 2, q.2, c)) else Sum.inl (1, q.1)) else Sum.inr (q.1, q.2, 16))
          split
          · exact er _ _ (by omega) (by omega) (by omega)
          · rename_i c3
            have lt : t (p + 1) = 64 ∨ t (p + 1) = 35 → q.2 < F := fun z => by
              have : ¬ F ≤ q.2 := fun y => c3 ⟨z, y⟩
              omega
            split
            · split
              · rename_i c4
                cases hc : pcT t L (q.1 + 1) with
                | none => exact er _ _ (by omega) (by omega) (by omega)
                | some u =>
                  have hu := pcT_le hc
                  exact Or.inr ⟨(q.1 + 2, q.2, u), rfl, c.1, c.2, by omega, by show p + 2 ≤ q.1 + 2; omega, by show q.1 + 2 ≤ L; omega, by show q.2 < 1000; omega, hu.1, lt⟩
              · exact er _ _ (by omega) (by omega) q2
            · exact Or.inr ⟨(q.1, q.2, 16), rfl, c.1, c.2, by omega, q1, q2, by show q.2 < 1000; omega, by show 16 ≤ 16; omega, lt⟩
  · exact er _ _ (by omega) (by omega) (by omega)
theorem isR90 : isR 90 := Or.inr (Or.inr rfl)
def Fo (n : Nat) (h h' : rz_H) : Prop := h'.2 = h.2 ∧ ∀ b i, ¬ (b = 90 ∧ 2 ≤ i ∧ i ≤ 4) → ¬ (b = 93 ∧ i = n) → ¬ (b = 94 ∧ i = n) → hI h' b i = hI h b i
theorem Fo.fr {n : Nat} {h h' : rz_H} (f : Fr 90 h h') : Fo n h h' := ⟨f.1, fun b i n1 _ _ => f.2 b i n1⟩
theorem Fo.tr {n : Nat} {h h1 h2 : rz_H} (a : Fo n h h1) (b : Fo n h1 h2) : Fo n h h2 := ⟨b.1.trans a.1, fun c i n1 n2 n3 => (b.2 c i n1 n2 n3).trans (a.2 c i n1 n2 n3)⟩
theorem Fo.w (n : Nat) (h : rz_H) (x : Int32) : Fo n h (setI h 93 n x) := ⟨rfl, fun b i _ n2 _ => by rw [hI_setI, if_neg n2]⟩
theorem Fo.g (n : Nat) (h : rz_H) (x : Int32) : Fo n h (setI h 94 n x) := ⟨rfl, fun b i _ _ n3 => by rw [hI_setI, if_neg n3]⟩
theorem T73 {rb dr : Nat} {jd : Option Nat} {h : rz_H} (w : Wf rb dr jd h) {n : Nat} (e9 : hI h 90 9 = nI n) (hn : n < 20) (x : Int32) (d : Nat) (j1 j2 j3 j4 j5 : Option rz_V) : rW d 221 (73, (0, 0), [some (rz_r (some 90)), j1, j2, j3, j4, j5, some (rz_i x)], [], h) = some (rz_i 0, setI h 93 n x) := by
  have n0 : ¬ nI n < 0 := Int32.not_lt.mpr (nI_pos' (by omega))
  have b := obR (WOr w).2.2.2.2.2.1
  rw [X221_73]
  simp (disch := omega) only [↓cd_d, ↓irem_eq_mod, ↓ob_setI, ↓ob_chI, ↓ob_some, bI_some, bV_some, bR_some, bL_some, ob_some, cd_t, cd_f, okO_setI, okA_setI, okL_setI, aLen_setI, hR_setI, hI_setI, Bool.true_and, Bool.and_true, Bool.and_self, Option.isNone_some, Option.isSome_some, Option.isNone_none, Option.isSome_none, okO_chI, okA_chI, okL_chI, aLen_chI, hR_chI, ↓reduceIte, not_true_eq_false, not_false_eq_true, eq_self, c10, Nat.zero_add, nI_add, litA, litB, litM, nI_mul, nI_leI, nI_ltI, nI_eq, litLe, litLe2, litLt, litLt2, litEq, litEq2, in_nI, lit_in, nI_clamp, lit_cl, if_pos, if_neg, WOr w, e9, n0, X221_76, ↓b, X221_82, X221_88]
theorem C222e {rb dr : Nat} {jd : Option Nat} {h : rz_H} (w : Wf rb dr jd h) (e3 : ¬ hI h 90 3 = 0) (d : Nat) : cW (d + 3) 222 [rz_r (some 90)] h = some (rz_i 0, h) := by
  have n1 : ¬ (-1 : Int32) = 45 := by decide
  have n2 : (-1 : Int32) < 97 := by decide
  have e237 : ∀ d, cW (d + 1) 237 [rz_i (-1)] h = some (rz_i (-1), h) := fun d => by
    rw [E237]
    simp only [bI_some, bV_some, bR_some, bL_some, ob_some, cd_t, cd_f, cd_d, okO_setI, okA_setI, okL_setI, aLen_setI, hR_setI, hI_setI, Bool.true_and, Bool.and_true, Bool.and_self, Option.isNone_some, Option.isSome_some, Option.isNone_none, Option.isSome_none, okO_chI, okA_chI, okL_chI, aLen_chI, hR_chI, ↓reduceIte, not_true_eq_false, not_false_eq_true, eq_self, c10, n1, n2]
  rw [X222]
  simp only [bI_some, bV_some, bR_some, bL_some, ob_some, cd_t, cd_f, cd_d, okO_setI, okA_setI, okL_setI, aLen_setI, hR_setI, hI_setI, Bool.true_and, Bool.and_true, Bool.and_self, Option.isNone_some, Option.isSome_some, Option.isNone_none, Option.isSome_none, okO_chI, okA_chI, okL_chI, aLen_chI, hR_chI, ↓reduceIte, not_true_eq_false, not_false_eq_true, eq_self, c10, WOr w, R227e w isR90 e3, e237, X222_4, X222_7, R232e w isR90 e3, X222_9]
theorem C222 {rb dr : Nat} {jd : Option Nat} {h : rz_H} (w : Wf rb dr jd h) {N : Nat} {t : Nat → Nat} (T : Tq h N t) {L : Nat} (hL : L ≤ N) {p : Nat} (s : Rs 90 h L p) (hp : p ≤ L) {n : Nat} (e9 : hI h 90 9 = nI n) (hn : n < 20) (d : Nat) : ∃ h', cW (d + 3) 222 [rz_r (some 90)] h = some (rz_i 0, h') ∧ Fo n h h' ∧ hI h' 93 n = hI h 93 n ∧ ((pcT t L p = none ∧ Re 90 h' (1, p)) ∨ (∃ c, pcT t L p = some c ∧ Rs 90 h' L (p + 1) ∧ hI h' 94 n = nI c)) := by
  have hN := T.1.1
  have hb : p < L → t p < 256 := fun q => (T.1.2 p (by omega)).1
  have pk := fun d => R227 w isR90 T hL s.1 s.2.1 (by omega) s.2.2 d
  have n0 : ¬ nI n < 0 := Int32.not_lt.mpr (nI_pos' (by omega))
  have st : cW (d + 3) 222 [rz_r (some 90)] h = rW (d + 2) 222 (4, (0, 0), [some (rz_r (some 90)), some (rz_i (pcI (pcT t L p)))], [], h) := by
    rw [X222, pk]
    simp only [bI_some, bV_some, bR_some, bL_some, ob_some, cd_t, cd_f, cd_d, okO_setI, okA_setI, okL_setI, aLen_setI, hR_setI, hI_setI, Bool.true_and, Bool.and_true, Bool.and_self, Option.isNone_some, Option.isSome_some, Option.isNone_none, Option.isSome_none, okO_chI, okA_chI, okL_chI, aLen_chI, hR_chI, ↓reduceIte, not_true_eq_false, not_false_eq_true, eq_self, c10, WOr w, R237 _ _ hb]
  rw [st]
  cases hc : pcT t L p with
  | none =>
    refine ⟨setI (setI h 90 3 1) 90 4 (nI p), ?_, Fo.fr (Fr.bl 90 h _ _), by rw [hI_setI, if_neg (by omega), hI_setI, if_neg (by omega)], Or.inl ⟨rfl, Re.bl 90 h 1 p⟩⟩
    show rW (d + 2) 222 (4, (0, 0), [some (rz_r (some 90)), some (rz_i (-1))], [], h) = _
    rw [X222_4]
    simp only [bI_some, bV_some, bR_some, bL_some, ob_some, cd_t, cd_f, cd_d, okO_setI, okA_setI, okL_setI, aLen_setI, hR_setI, hI_setI, Bool.true_and, Bool.and_true, Bool.and_self, Option.isNone_some, Option.isSome_some, Option.isNone_none, Option.isSome_none, okO_chI, okA_chI, okL_chI, aLen_chI, hR_chI, ↓reduceIte, not_true_eq_false, not_false_eq_true, eq_self, c10, WOr w, X222_7, R232 w isR90 s.2.1 s.2.2, X222_9]
  | some c =>
    have hcc := (pcT_le hc).1
    let h1 := setI h 90 2 (nI (p + 1))
    have w1 : Wf rb dr jd h1 := w
    have v9 : hI h1 90 9 = nI n := by
      show hI (setI h 90 2 _) 90 9 = _
      rw [hI_setI, if_neg (by omega)]
      exact e9
    refine ⟨setI h1 94 n (nI c), ?_, (Fo.fr (Fr.go 90 h _)).tr (Fo.g n _ _), by rw [hI_setI, if_neg (by omega)]; show hI (setI h 90 2 _) 93 n = _; rw [hI_setI, if_neg (by omega)], Or.inr ⟨c, rfl, ?_, by rw [hI_setI, if_pos ⟨rfl, rfl⟩]⟩⟩
    · show rW (d + 2) 222 (4, (0, 0), [some (rz_r (some 90)), some (rz_i (nI c))], [], h) = _
      have n1 : ¬ nI c = (-1 : Int32) := ne_m1 (by omega)
      have b := obR (WOr w1).2.2.2.2.2.2.1
      rw [X222_4]
      simp only [bI_some, bV_some, bR_some, bL_some, ob_some, cd_t, cd_f, cd_d, okO_setI, okA_setI, okL_setI, aLen_setI, hR_setI, hI_setI, Bool.true_and, Bool.and_true, Bool.and_self, Option.isNone_some, Option.isSome_some, Option.isNone_none, Option.isSome_none, okO_chI, okA_chI, okL_chI, aLen_chI, hR_chI, ↓reduceIte, not_true_eq_false, not_false_eq_true, eq_self, c10, n1, X222_10, WOr w, R229 w isR90 s.2.1]
      rw [show setI h 90 2 (nI (p + 1)) = h1 from rfl, X222_12]
      generalize h1 = g at *
      simp (disch := omega) only [↓cd_d, ↓irem_eq_mod, ↓ob_setI, ↓ob_chI, ↓ob_some, bI_some, bV_some, bR_some, bL_some, ob_some, cd_t, cd_f, okO_setI, okA_setI, okL_setI, aLen_setI, hR_setI, hI_setI, Bool.true_and, Bool.and_true, Bool.and_self, Option.isNone_some, Option.isSome_some, Option.isNone_none, Option.isSome_none, okO_chI, okA_chI, okL_chI, aLen_chI, hR_chI, ↓reduceIte, not_true_eq_false, not_false_eq_true, eq_self, c10, Nat.zero_add, nI_add, litA, litB, litM, nI_mul, nI_leI, nI_ltI, nI_eq, litLe, litLe2, litLt, litLt2, litEq, litEq2, in_nI, lit_in, nI_clamp, lit_cl, if_pos, if_neg, WOr w1, v9, n0, X222_15, ↓b, X222_21, X222_27]
    · have s1 : Rs 90 h1 L (p + 1) := s.go (p + 1)
      exact ⟨by rw [hI_setI, if_neg (by omega)]; exact s1.1, by rw [hI_setI, if_neg (by omega)]; exact s1.2.1, by rw [hI_setI, if_neg (by omega)]; exact s1.2.2⟩
theorem T65e {rb dr : Nat} {jd : Option Nat} {h : rz_H} (w : Wf rb dr jd h) {n : Nat} (e9 : hI h 90 9 = nI n) (hn : n < 20) (e3 : ¬ hI h 90 3 = 0) (x2 x : Int32) (d : Nat) (j1 j3 j4 j5 : Option rz_V) : rW (d + 3) 221 (65, (0, 0), [some (rz_r (some 90)), j1, some (rz_i x2), j3, j4, j5, some (rz_i x)], [], h) = some (rz_i 0, setI h 93 n x) := by
  have e233 : ∀ d, cW (d + 3) 233 [rz_r (some 90), rz_i 61] h = some (rz_i 0, h) := fun d => R233e w isR90 e3 d (m := 61) (by omega)
  rw [X221_65]
  by_cases q : x2 = 35
  · subst q
    simp only [bI_some, bV_some, bR_some, bL_some, ob_some, cd_t, cd_f, cd_d, okO_setI, okA_setI, okL_setI, aLen_setI, hR_setI, hI_setI, Bool.true_and, Bool.and_true, Bool.and_self, Option.isNone_some, Option.isSome_some, Option.isNone_none, Option.isSome_none, okO_chI, okA_chI, okL_chI, aLen_chI, hR_chI, ↓reduceIte, not_true_eq_false, not_false_eq_true, eq_self, c10, X221_68, WOr w, e233, X221_71, C222e w e3]
    exact T73 w e9 hn x _ _ _ _ _ _
  · simp only [bI_some, bV_some, bR_some, bL_some, ob_some, cd_t, cd_f, cd_d, okO_setI, okA_setI, okL_setI, aLen_setI, hR_setI, hI_setI, Bool.true_and, Bool.and_true, Bool.and_self, Option.isNone_some, Option.isSome_some, Option.isNone_none, Option.isSome_none, okO_chI, okA_chI, okL_chI, aLen_chI, hR_chI, ↓reduceIte, not_true_eq_false, not_false_eq_true, eq_self, c10, q]
    exact T73 w e9 hn x _ _ _ _ _ _
theorem T55e {rb dr : Nat} {jd : Option Nat} {h : rz_H} (w : Wf rb dr jd h) {n : Nat} (e9 : hI h 90 9 = nI n) (hn : n < 20) (e3 : ¬ hI h 90 3 = 0) {a : Nat} (hd : isD a) (x2 x3 x4 x5 x : Int32) (d : Nat) : rW (d + 3) 221 (55, (0, 0), [some (rz_r (some 90)), some (rz_r (some a)), some (rz_i x2), some (rz_i x3), some (rz_i x4), some (rz_i x5), some (rz_i x)], [], h) = some (rz_i 0, setI h 93 n x) := by
  rw [X221_55]
  by_cases q : x4 = 0
  · simp only [bI_some, bV_some, bR_some, bL_some, ob_some, cd_t, cd_f, cd_d, okO_setI, okA_setI, okL_setI, aLen_setI, hR_setI, hI_setI, Bool.true_and, Bool.and_true, Bool.and_self, Option.isNone_some, Option.isSome_some, Option.isNone_none, Option.isSome_none, okO_chI, okA_chI, okL_chI, aLen_chI, hR_chI, ↓reduceIte, not_true_eq_false, not_false_eq_true, eq_self, c10, q]
    exact T65e w e9 hn e3 x2 x d _ _ _ _
  · simp only [bI_some, bV_some, bR_some, bL_some, ob_some, cd_t, cd_f, cd_d, okO_setI, okA_setI, okL_setI, aLen_setI, hR_setI, hI_setI, Bool.true_and, Bool.and_true, Bool.and_self, Option.isNone_some, Option.isSome_some, Option.isNone_none, Option.isSome_none, okO_chI, okA_chI, okL_chI, aLen_chI, hR_chI, ↓reduceIte, not_true_eq_false, not_false_eq_true, eq_self, c10, q]
    rw [X221_57]
    by_cases z : x < hI h a 2
    · simp only [bI_some, bV_some, bR_some, bL_some, ob_some, cd_t, cd_f, cd_d, okO_setI, okA_setI, okL_setI, aLen_setI, hR_setI, hI_setI, Bool.true_and, Bool.and_true, Bool.and_self, Option.isNone_some, Option.isSome_some, Option.isNone_none, Option.isSome_none, okO_chI, okA_chI, okL_chI, aLen_chI, hR_chI, ↓reduceIte, not_true_eq_false, not_false_eq_true, eq_self, c10, WD w hd, S136 w hd, z]
      exact T65e w e9 hn e3 x2 x d _ _ _ _
    · simp only [bI_some, bV_some, bR_some, bL_some, ob_some, cd_t, cd_f, cd_d, okO_setI, okA_setI, okL_setI, aLen_setI, hR_setI, hI_setI, Bool.true_and, Bool.and_true, Bool.and_self, Option.isNone_some, Option.isSome_some, Option.isNone_none, Option.isSome_none, okO_chI, okA_chI, okL_chI, aLen_chI, hR_chI, ↓reduceIte, not_true_eq_false, not_false_eq_true, eq_self, c10, WD w hd, S136 w hd, z]
      rw [X221_61]
      simp only [bI_some, bV_some, bR_some, bL_some, ob_some, cd_t, cd_f, cd_d, okO_setI, okA_setI, okL_setI, aLen_setI, hR_setI, hI_setI, Bool.true_and, Bool.and_true, Bool.and_self, Option.isNone_some, Option.isSome_some, Option.isNone_none, Option.isSome_none, okO_chI, okA_chI, okL_chI, aLen_chI, hR_chI, ↓reduceIte, not_true_eq_false, not_false_eq_true, eq_self, c10, WOr w, R231e w isR90 e3]
      exact T65e w e9 hn e3 x2 x d _ _ _ _
theorem Re.ne {r : Nat} {h : rz_H} {e : Nat × Nat} (s : Re r h e) (h0 : 0 < e.1) (h1 : e.1 < 10) : ¬ hI h r 3 = 0 := by
  rw [s.1]
  exact nI_ne0 h0 (by omega)
theorem Re.w {h : rz_H} {e : Nat × Nat} (s : Re 90 h e) {b : Nat} (hb : b ≠ 90) (i : Nat) (x : Int32) : Re 90 (setI h b i x) e := ⟨by rw [hI_setI, if_neg (by omega)]; exact s.1, by rw [hI_setI, if_neg (by omega)]; exact s.2⟩
theorem Rs.w {h : rz_H} {L p : Nat} (s : Rs 90 h L p) {b : Nat} (hb : b ≠ 90) (i : Nat) (x : Int32) : Rs 90 (setI h b i x) L p := ⟨by rw [hI_setI, if_neg (by omega)]; exact s.1, by rw [hI_setI, if_neg (by omega)]; exact s.2.1, by rw [hI_setI, if_neg (by omega)]; exact s.2.2⟩
/-- what is left of an order -/
def Oo (n : Nat) (h h' : rz_H) (L : Nat) (z : (Nat × Nat) ⊕ (Nat × Nat × Nat)) : Prop := Fo n h h' ∧ ((∃ e, z = Sum.inl e ∧ Re 90 h' e) ∨ (∃ q, z = Sum.inr q ∧ Rs 90 h' L q.1 ∧ hI h' 93 n = nI q.2.1 ∧ hI h' 94 n = nI q.2.2))
def tl55 (t : Nat → Nat) (L F p s : Nat) (q : Nat × Nat) : (Nat × Nat) ⊕ (Nat × Nat × Nat) := if (s = 64 ∨ s = 35) ∧ F ≤ q.2 then Sum.inl (3, p + 2) else if s = 35 then (if q.1 < L ∧ t q.1 = 61 then (match pcT t L (q.1 + 1) with
      | none => Sum.inl (1, q.1 + 1)
      | some c => Sum.inr (q.1 + 2, q.2, c)) else Sum.inl (1, q.1)) else Sum.inr (q.1, q.2, 16)
theorem T55 {rb dr : Nat} {jd : Option Nat} {h : rz_H} (w : Wf rb dr jd h) {N : Nat} {t : Nat → Nat} (T : Tq h N t) {L : Nat} (hL : L ≤ N) {q : Nat × Nat} (s : Rs 90 h L q.1) (hq : q.1 ≤ L) (hv : q.2 < 1000) {n : Nat} (e9 : hI h 90 9 = nI n) (hn : n < 20) (e94 : hI h 94 n = nI 16) {a F : Nat} (hd : isD a) (eF : hI h a 2 = nI F) (hF : F ≤ 16) {sg p : Nat} (hs : sg = 64 ∨ sg = 35 ∨ sg = 43 ∨ sg = 45) (x3 : Int32) (d : Nat) : ∃ h', rW (d + 3) 221 (55, (0, 0), [some (rz_r (some 90)), some (rz_r (some a)), some (rz_i (nI sg)), some (rz_i x3), some (rz_i (if sg = 64 ∨ sg = 35 then 1 else 0)), some (rz_i (nI (p + 2))), some (rz_i (nI q.2))], [], h) = some (rz_i 0, h') ∧ Oo n h h' L (tl55 t L F p sg q) := by
  have hN := T.1.1
  have go : ¬ ((sg = 64 ∨ sg = 35) ∧ F ≤ q.2) → ∃ h', rW (d + 3) 221 (65, (0, 0), [some (rz_r (some 90)), some (rz_r (some a)), some (rz_i (nI sg)), some (rz_i x3), some (rz_i (if sg = 64 ∨ sg = 35 then 1 else 0)), some (rz_i (nI (p + 2))), some (rz_i (nI q.2))], [], h) = some (rz_i 0, h') ∧ Oo n h h' L (tl55 t L F p sg q) := fun c => by
    unfold tl55
    rw [if_neg c, X221_65]
    by_cases c2 : sg = 35
    · subst c2
      rw [if_pos rfl]
      have e233 : ∀ d, cW (d + 3) 233 [rz_r (some 90), rz_i 61] h = if q.1 < L ∧ t q.1 = 61 then some (rz_i 0, setI h 90 2 (nI (q.1 + 1))) else some (rz_i 0, setI (setI h 90 3 1) 90 4 (nI q.1)) := fun d => R233 w isR90 T hL s.1 s.2.1 (by omega) s.2.2 (m := 61) (by omega) d
      have l35 : nI 35 = (35 : Int32) := rfl
      by_cases c3 : q.1 < L ∧ t q.1 = 61
      · rw [if_pos c3]
        let h1 := setI h 90 2 (nI (q.1 + 1))
        have w1 : Wf rb dr jd h1 := w
        have s1 : Rs 90 h1 L (q.1 + 1) := s.go (q.1 + 1)
        have f1 : Fr 90 h h1 := Fr.go 90 h _
        have T1 := T.fr isR90 f1
        have v9 : hI h1 90 9 = nI n := (f1.2 90 9 (by omega)).trans e9
        obtain ⟨h2, e2, f2, k2, o2⟩ := C222 w1 T1 hL s1 (by omega) v9 hn d
        have w2 : Wf rb dr jd h2 := w1.e f2.1
        have u9 : hI h2 90 9 = nI n := (f2.2 90 9 (by omega) (by omega) (by omega)).trans v9
        refine ⟨setI h2 93 n (nI q.2), ?_, ((Fo.fr f1).tr f2).tr (Fo.w n h2 _), ?_⟩
        · simp only [bI_some, bV_some, bR_some, bL_some, ob_some, cd_t, cd_f, cd_d, okO_setI, okA_setI, okL_setI, aLen_setI, hR_setI, hI_setI, Bool.true_and, Bool.and_true, Bool.and_self, Option.isNone_some, Option.isSome_some, Option.isNone_none, Option.isSome_none, okO_chI, okA_chI, okL_chI, aLen_chI, hR_chI, ↓reduceIte, not_true_eq_false, not_false_eq_true, eq_self, c10, l35, X221_68, WOr w, e233, if_pos c3]
          rw [show setI h 90 2 (nI (q.1 + 1)) = h1 from rfl, X221_71, e2]
          simp only [bI_some, bV_some, bR_some, bL_some, ob_some, cd_t, cd_f, cd_d, okO_setI, okA_setI, okL_setI, aLen_setI, hR_setI, hI_setI, Bool.true_and, Bool.and_true, Bool.and_self, Option.isNone_some, Option.isSome_some, Option.isNone_none, Option.isSome_none, okO_chI, okA_chI, okL_chI, aLen_chI, hR_chI, ↓reduceIte, not_true_eq_false, not_false_eq_true, eq_self, c10, WOr w1]
          exact T73 w2 u9 hn _ _ _ _ _ _ _
        · rcases o2 with ⟨o1, o2⟩ | ⟨c, o1, o2, o3⟩
          · rw [o1]
            exact Or.inl ⟨_, rfl, o2.w (by omega) _ _⟩
          · rw [o1]
            exact Or.inr ⟨_, rfl, o2.w (by omega) _ _, by rw [hI_setI, if_pos ⟨rfl, rfl⟩], by rw [hI_setI, if_neg (by omega)]; exact o3⟩
      · rw [if_neg c3]
        let h1 := setI (setI h 90 3 1) 90 4 (nI q.1)
        have w1 : Wf rb dr jd h1 := w
        have s1 : Re 90 h1 (1, q.1) := Re.bl 90 h 1 q.1
        have f1 : Fr 90 h h1 := Fr.bl 90 h _ _
        have v9 : hI h1 90 9 = nI n := (f1.2 90 9 (by omega)).trans e9
        have e3 := s1.ne (by show 0 < 1; omega) (by show 1 < 10; omega)
        refine ⟨setI h1 93 n (nI q.2), ?_, (Fo.fr f1).tr (Fo.w n h1 _), Or.inl ⟨_, rfl, s1.w (by omega) _ _⟩⟩
        simp only [bI_some, bV_some, bR_some, bL_some, ob_some, cd_t, cd_f, cd_d, okO_setI, okA_setI, okL_setI, aLen_setI, hR_setI, hI_setI, Bool.true_and, Bool.and_true, Bool.and_self, Option.isNone_some, Option.isSome_some, Option.isNone_none, Option.isSome_none, okO_chI, okA_chI, okL_chI, aLen_chI, hR_chI, ↓reduceIte, not_true_eq_false, not_false_eq_true, eq_self, c10, l35, X221_68, WOr w, e233, if_neg c3]
        rw [show setI (setI h 90 3 1) 90 4 (nI q.1) = h1 from rfl, X221_71, C222e w1 e3]
        simp only [bI_some, bV_some, bR_some, bL_some, ob_some, cd_t, cd_f, cd_d, okO_setI, okA_setI, okL_setI, aLen_setI, hR_setI, hI_setI, Bool.true_and, Bool.and_true, Bool.and_self, Option.isNone_some, Option.isSome_some, Option.isNone_none, Option.isSome_none, okO_chI, okA_chI, okL_chI, aLen_chI, hR_chI, ↓reduceIte, not_true_eq_false, not_false_eq_true, eq_self, c10, WOr w1]
        exact T73 w1 v9 hn _ _ _ _ _ _ _
    · rw [if_neg c2]
      have n35 : ¬ nI sg = (35 : Int32) := fun z => c2 ((nI_eq (a := sg) (b := 35) (by omega) (by omega)).mp z)
      refine ⟨setI h 93 n (nI q.2), ?_, Fo.w n h _, Or.inr ⟨_, rfl, s.w (by omega) _ _, by rw [hI_setI, if_pos ⟨rfl, rfl⟩], by rw [hI_setI, if_neg (by omega)]; exact e94⟩⟩
      simp only [bI_some, bV_some, bR_some, bL_some, ob_some, cd_t, cd_f, cd_d, okO_setI, okA_setI, okL_setI, aLen_setI, hR_setI, hI_setI, Bool.true_and, Bool.and_true, Bool.and_self, Option.isNone_some, Option.isSome_some, Option.isNone_none, Option.isSome_none, okO_chI, okA_chI, okL_chI, aLen_chI, hR_chI, ↓reduceIte, not_true_eq_false, not_false_eq_true, eq_self, c10, n35]
      exact T73 w e9 hn _ _ _ _ _ _ _
  by_cases c : sg = 64 ∨ sg = 35
  · have r1 : (if sg = 64 ∨ sg = 35 then (1 : Int32) else 0) = 1 := if_pos c
    rw [r1] at go ⊢
    by_cases c2 : F ≤ q.2
    · let h1 := setI (setI h 90 3 3) 90 4 (nI (p + 2))
      have w1 : Wf rb dr jd h1 := w
      have s1 : Re 90 h1 (3, p + 2) := Re.bl 90 h 3 (p + 2)
      have f1 : Fr 90 h h1 := Fr.bl 90 h _ _
      have v9 : hI h1 90 9 = nI n := (f1.2 90 9 (by omega)).trans e9
      have e3 := s1.ne (by show 0 < 3; omega) (by show 3 < 10; omega)
      unfold tl55
      rw [if_pos ⟨c, c2⟩]
      refine ⟨setI h1 93 n (nI q.2), ?_, (Fo.fr f1).tr (Fo.w n h1 _), Or.inl ⟨_, rfl, s1.w (by omega) _ _⟩⟩
      rw [X221_55]
      simp only [bI_some, bV_some, bR_some, bL_some, ob_some, cd_t, cd_f, cd_d, okO_setI, okA_setI, okL_setI, aLen_setI, hR_setI, hI_setI, Bool.true_and, Bool.and_true, Bool.and_self, Option.isNone_some, Option.isSome_some, Option.isNone_none, Option.isSome_none, okO_chI, okA_chI, okL_chI, aLen_chI, hR_chI, ↓reduceIte, not_true_eq_false, not_false_eq_true, eq_self, c10, c10]
      rw [X221_57]
      have g1 : ¬ nI q.2 < nI F := fun z => by
        have := (nI_ltI (a := q.2) (b := F) (by omega) (by omega)).mp z
        omega
      simp only [bI_some, bV_some, bR_some, bL_some, ob_some, cd_t, cd_f, cd_d, okO_setI, okA_setI, okL_setI, aLen_setI, hR_setI, hI_setI, Bool.true_and, Bool.and_true, Bool.and_self, Option.isNone_some, Option.isSome_some, Option.isNone_none, Option.isSome_none, okO_chI, okA_chI, okL_chI, aLen_chI, hR_chI, ↓reduceIte, not_true_eq_false, not_false_eq_true, eq_self, c10, WD w hd, S136 w hd, eF, g1]
      rw [X221_61]
      simp only [bI_some, bV_some, bR_some, bL_some, ob_some, cd_t, cd_f, cd_d, okO_setI, okA_setI, okL_setI, aLen_setI, hR_setI, hI_setI, Bool.true_and, Bool.and_true, Bool.and_self, Option.isNone_some, Option.isSome_some, Option.isNone_none, Option.isSome_none, okO_chI, okA_chI, okL_chI, aLen_chI, hR_chI, ↓reduceIte, not_true_eq_false, not_false_eq_true, eq_self, c10, WOr w, R231 w isR90 s.2.2]
      exact T65e w1 v9 hn e3 _ _ d _ _ _ _
    · obtain ⟨h', e, o⟩ := go fun z => c2 z.2
      refine ⟨h', ?_, o⟩
      rw [X221_55]
      simp only [bI_some, bV_some, bR_some, bL_some, ob_some, cd_t, cd_f, cd_d, okO_setI, okA_setI, okL_setI, aLen_setI, hR_setI, hI_setI, Bool.true_and, Bool.and_true, Bool.and_self, Option.isNone_some, Option.isSome_some, Option.isNone_none, Option.isSome_none, okO_chI, okA_chI, okL_chI, aLen_chI, hR_chI, ↓reduceIte, not_true_eq_false, not_false_eq_true, eq_self, c10, c10]
      rw [X221_57]
      have g1 : nI q.2 < nI F := (nI_ltI (a := q.2) (b := F) (by omega) (by omega)).mpr (by omega)
      simp only [bI_some, bV_some, bR_some, bL_some, ob_some, cd_t, cd_f, cd_d, okO_setI, okA_setI, okL_setI, aLen_setI, hR_setI, hI_setI, Bool.true_and, Bool.and_true, Bool.and_self, Option.isNone_some, Option.isSome_some, Option.isNone_none, Option.isSome_none, okO_chI, okA_chI, okL_chI, aLen_chI, hR_chI, ↓reduceIte, not_true_eq_false, not_false_eq_true, eq_self, c10, WD w hd, S136 w hd, eF, g1]
      exact e
  · have r1 : (if sg = 64 ∨ sg = 35 then (1 : Int32) else 0) = 0 := if_neg c
    rw [r1] at go ⊢
    obtain ⟨h', e, o⟩ := go fun z => c z.1
    refine ⟨h', ?_, o⟩
    rw [X221_55]
    simp only [bI_some, bV_some, bR_some, bL_some, ob_some, cd_t, cd_f, cd_d, okO_setI, okA_setI, okL_setI, aLen_setI, hR_setI, hI_setI, Bool.true_and, Bool.and_true, Bool.and_self, Option.isNone_some, Option.isSome_some, Option.isNone_none, Option.isSome_none, okO_chI, okA_chI, okL_chI, aLen_chI, hR_chI, ↓reduceIte, not_true_eq_false, not_false_eq_true, eq_self, c10]
    exact e
theorem lits : (¬ (33 : Int32) = 63 ∧ ¬ (33 : Int32) = 64 ∧ ¬ (33 : Int32) = 35 ∧ ¬ (33 : Int32) = 43 ∧ ¬ (33 : Int32) = 45) ∧ (¬ (63 : Int32) = 33 ∧ ¬ (63 : Int32) = 64 ∧ ¬ (63 : Int32) = 35 ∧ ¬ (63 : Int32) = 43 ∧ ¬ (63 : Int32) = 45) ∧ (¬ (64 : Int32) = 33 ∧ ¬ (64 : Int32) = 63 ∧ ¬ (64 : Int32) = 35 ∧ ¬ (64 : Int32) = 43 ∧ ¬ (64 : Int32) = 45) ∧ (¬ (35 : Int32) = 33 ∧ ¬ (35 : Int32) = 63 ∧ ¬ (35 : Int32) = 64 ∧ ¬ (35 : Int32) = 43 ∧ ¬ (35 : Int32) = 45) ∧ (¬ (43 : Int32) = 33 ∧ ¬ (43 : Int32) = 63 ∧ ¬ (43 : Int32) = 64 ∧ ¬ (43 : Int32) = 35 ∧ ¬ (43 : Int32) = 45) ∧ (¬ (45 : Int32) = 33 ∧ ¬ (45 : Int32) = 63 ∧ ¬ (45 : Int32) = 64 ∧ ¬ (45 : Int32) = 35 ∧ ¬ (45 : Int32) = 43) := by decide
theorem C221 {rb dr : Nat} {jd : Option Nat} {h : rz_H} (w : Wf rb dr jd h) {N : Nat} {t : Nat → Nat} (T : Tq h N t) {L : Nat} (hL : L ≤ N) {p n F : Nat} (s : Rs 90 h L (p + 1)) (hp : p + 1 ≤ L) (e9 : hI h 90 9 = nI n) (hn : n < 20) (e93 : hI h 93 n = nI 0) (e94 : hI h 94 n = nI 16) {r : Option Nat} (hF : F ≤ 16) (hr : (F = 0 ∧ r = none) ∨ (0 < F ∧ ∃ a, r = some a ∧ isD a ∧ hI h a 2 = nI F)) (d : Nat) : ∃ h', cW (d + 4) 221 [rz_r (some 90), rz_r r, rz_i (pkI t L (p + 1))] h = some (rz_i 0, h') ∧ Oo n h h' L (orT t L F p) := by
  have hN := T.1.1
  have hb : p + 1 < L → t (p + 1) < 256 := fun q => (T.1.2 (p + 1) (by omega)).1
  have pe := fun m (hm : m < 1000) => pkk_eq (t := t) (L := L) (p := p + 1) (m := m) hb hm
  unfold orT
  by_cases c : p + 1 < L ∧ sgT (t (p + 1)) = true
  · rw [if_pos c]
    have sg : t (p + 1) = 33 ∨ t (p + 1) = 63 ∨ t (p + 1) = 64 ∨ t (p + 1) = 35 ∨ t (p + 1) = 43 ∨ t (p + 1) = 45 := of_decide_eq_true c.2
    rw [pkk_in c.1]
    have st : cW (d + 4) 221 [rz_r (some 90), rz_r r, rz_i (nI (t (p + 1)))] h = rW (d + 3) 221 (33, (0, 0), [some (rz_r (some 90)), some (rz_r r), some (rz_i (nI (t (p + 1)))), some (rz_i (if t (p + 1) = 33 ∨ t (p + 1) = 63 then 1 else 0)), some (rz_i (if t (p + 1) = 64 ∨ t (p + 1) = 35 then 1 else 0)), none, none], [], h) := by
      generalize t (p + 1) = z at sg
      rcases sg with rfl | rfl | rfl | rfl | rfl | rfl
      · show cW (d + 4) 221 [rz_r (some 90), rz_r r, rz_i 33] h = rW (d + 3) 221 (33, (0, 0), [some (rz_r (some 90)), some (rz_r r), some (rz_i 33), some (rz_i 1), some (rz_i 0), none, none], [], h)
        simp only [bI_some, bV_some, bR_some, bL_some, ob_some, cd_t, cd_f, cd_d, okO_setI, okA_setI, okL_setI, aLen_setI, hR_setI, hI_setI, Bool.true_and, Bool.and_true, Bool.and_self, Option.isNone_some, Option.isSome_some, Option.isNone_none, Option.isSome_none, okO_chI, okA_chI, okL_chI, aLen_chI, hR_chI, ↓reduceIte, not_true_eq_false, not_false_eq_true, eq_self, c10, X221, X221_6, X221_10, X221_13, X221_18, X221_20, lits]
      · show cW (d + 4) 221 [rz_r (some 90), rz_r r, rz_i 63] h = rW (d + 3) 221 (33, (0, 0), [some (rz_r (some 90)), some (rz_r r), some (rz_i 63), some (rz_i 1), some (rz_i 0), none, none], [], h)
        simp only [bI_some, bV_some, bR_some, bL_some, ob_some, cd_t, cd_f, cd_d, okO_setI, okA_setI, okL_setI, aLen_setI, hR_setI, hI_setI, Bool.true_and, Bool.and_true, Bool.and_self, Option.isNone_some, Option.isSome_some, Option.isNone_none, Option.isSome_none, okO_chI, okA_chI, okL_chI, aLen_chI, hR_chI, ↓reduceIte, not_true_eq_false, not_false_eq_true, eq_self, c10, X221, X221_3, X221_6, X221_10, X221_13, X221_18, X221_20, lits]
      · show cW (d + 4) 221 [rz_r (some 90), rz_r r, rz_i 64] h = rW (d + 3) 221 (33, (0, 0), [some (rz_r (some 90)), some (rz_r r), some (rz_i 64), some (rz_i 0), some (rz_i 1), none, none], [], h)
        simp only [bI_some, bV_some, bR_some, bL_some, ob_some, cd_t, cd_f, cd_d, okO_setI, okA_setI, okL_setI, aLen_setI, hR_setI, hI_setI, Bool.true_and, Bool.and_true, Bool.and_self, Option.isNone_some, Option.isSome_some, Option.isNone_none, Option.isSome_none, okO_chI, okA_chI, okL_chI, aLen_chI, hR_chI, ↓reduceIte, not_true_eq_false, not_false_eq_true, eq_self, c10, X221, X221_3, X221_8, X221_10, X221_16, X221_20, X221_22, lits]
      · show cW (d + 4) 221 [rz_r (some 90), rz_r r, rz_i 35] h = rW (d + 3) 221 (33, (0, 0), [some (rz_r (some 90)), some (rz_r r), some (rz_i 35), some (rz_i 0), some (rz_i 1), none, none], [], h)
        simp only [bI_some, bV_some, bR_some, bL_some, ob_some, cd_t, cd_f, cd_d, okO_setI, okA_setI, okL_setI, aLen_setI, hR_setI, hI_setI, Bool.true_and, Bool.and_true, Bool.and_self, Option.isNone_some, Option.isSome_some, Option.isNone_none, Option.isSome_none, okO_chI, okA_chI, okL_chI, aLen_chI, hR_chI, ↓reduceIte, not_true_eq_false, not_false_eq_true, eq_self, c10, X221, X221_3, X221_8, X221_10, X221_13, X221_16, X221_20, X221_22, lits]
      · show cW (d + 4) 221 [rz_r (some 90), rz_r r, rz_i 43] h = rW (d + 3) 221 (33, (0, 0), [some (rz_r (some 90)), some (rz_r r), some (rz_i 43), some (rz_i 0), some (rz_i 0), none, none], [], h)
        simp only [bI_some, bV_some, bR_some, bL_some, ob_some, cd_t, cd_f, cd_d, okO_setI, okA_setI, okL_setI, aLen_setI, hR_setI, hI_setI, Bool.true_and, Bool.and_true, Bool.and_self, Option.isNone_some, Option.isSome_some, Option.isNone_none, Option.isSome_none, okO_chI, okA_chI, okL_chI, aLen_chI, hR_chI, ↓reduceIte, not_true_eq_false, not_false_eq_true, eq_self, c10, X221, X221_3, X221_8, X221_10, X221_13, X221_18, X221_20, X221_22, X221_24, lits]
      · show cW (d + 4) 221 [rz_r (some 90), rz_r r, rz_i 45] h = rW (d + 3) 221 (33, (0, 0), [some (rz_r (some 90)), some (rz_r r), some (rz_i 45), some (rz_i 0), some (rz_i 0), none, none], [], h)
        simp only [bI_some, bV_some, bR_some, bL_some, ob_some, cd_t, cd_f, cd_d, okO_setI, okA_setI, okL_setI, aLen_setI, hR_setI, hI_setI, Bool.true_and, Bool.and_true, Bool.and_self, Option.isNone_some, Option.isSome_some, Option.isNone_none, Option.isSome_none, okO_chI, okA_chI, okL_chI, aLen_chI, hR_chI, ↓reduceIte, not_true_eq_false, not_false_eq_true, eq_self, c10, X221, X221_3, X221_8, X221_10, X221_13, X221_18, X221_20, X221_22, X221_24, X221_27, lits]
    rw [st, X221_33]
    rcases hr with ⟨rfl, rfl⟩ | ⟨h0, a, rfl, hd, eF⟩
    · rw [if_pos rfl]
      have u : nI (p + 1) - 1 = nI p := nI_sub (b := 1) (by omega)
      refine ⟨setI (setI h 90 3 7) 90 4 (nI p), ?_, Fo.fr (Fr.bl 90 h _ _), Or.inl ⟨_, rfl, Re.bl 90 h 7 p⟩⟩
      simp only [bI_some, bV_some, bR_some, bL_some, ob_some, cd_t, cd_f, cd_d, okO_setI, okA_setI, okL_setI, aLen_setI, hR_setI, hI_setI, Bool.true_and, Bool.and_true, Bool.and_self, Option.isNone_some, Option.isSome_some, Option.isNone_none, Option.isSome_none, okO_chI, okA_chI, okL_chI, aLen_chI, hR_chI, ↓reduceIte, not_true_eq_false, not_false_eq_true, eq_self, c10, X221_35, WOr w, R228 w isR90, s.2.1, u, R231 w isR90 s.2.2, X221_42]
    · rw [if_neg (show ¬ F = 0 by omega)]
      let h1 := setI h 90 2 (nI (p + 1 + 1))
      have w1 : Wf rb dr jd h1 := w
      have s1 : Rs 90 h1 L (p + 2) := s.go (p + 2)
      have f1 : Fr 90 h h1 := Fr.go 90 h _
      have T1 := T.fr isR90 f1
      have v9 : hI h1 90 9 = nI n := (f1.2 90 9 (by omega)).trans e9
      by_cases b : t (p + 1) = 33 ∨ t (p + 1) = 63
      · rw [if_pos b, if_pos b]
        refine ⟨h1, ?_, Fo.fr f1, Or.inr ⟨_, rfl, s1, (f1.2 93 n (by omega)).trans e93, (f1.2 94 n (by omega)).trans e94⟩⟩
        simp only [bI_some, bV_some, bR_some, bL_some, ob_some, cd_t, cd_f, cd_d, okO_setI, okA_setI, okL_setI, aLen_setI, hR_setI, hI_setI, Bool.true_and, Bool.and_true, Bool.and_self, Option.isNone_some, Option.isSome_some, Option.isNone_none, Option.isSome_none, okO_chI, okA_chI, okL_chI, aLen_chI, hR_chI, ↓reduceIte, not_true_eq_false, not_false_eq_true, eq_self, c10, X221_43, WOr w, R229 w isR90 s.2.1, X221_45, X221_47]
        rfl
      · rw [if_neg b, if_neg b]
        obtain ⟨v, h2, e2, f2, o2⟩ := R235 w1 isR90 T1 hL (m := 3) (by omega) (by omega) s1 (by omega) d
        have w2 : Wf rb dr jd h2 := w1.e f2.1
        have u9 : hI h2 90 9 = nI n := (f2.2 90 9 (by omega)).trans v9
        have e2 : cW (d + 3) 235 [rz_r (some 90), rz_i 3] h1 = some (rz_i v, h2) := e2
        have st2 : ∀ x4, rW (d + 3) 221 (43, (0, 0), [some (rz_r (some 90)), some (rz_r (some a)), some (rz_i (nI (t (p + 1)))), some (rz_i 0), some (rz_i x4), none, none], [], h) = rW (d + 3) 221 (55, (0, 0), [some (rz_r (some 90)), some (rz_r (some a)), some (rz_i (nI (t (p + 1)))), some (rz_i 0), some (rz_i x4), some (rz_i (nI (p + 2))), some (rz_i v)], [], h2) := fun x4 => by
          rw [X221_43]
          simp only [bI_some, bV_some, bR_some, bL_some, ob_some, cd_t, cd_f, cd_d, okO_setI, okA_setI, okL_setI, aLen_setI, hR_setI, hI_setI, Bool.true_and, Bool.and_true, Bool.and_self, Option.isNone_some, Option.isSome_some, Option.isNone_none, Option.isSome_none, okO_chI, okA_chI, okL_chI, aLen_chI, hR_chI, ↓reduceIte, not_true_eq_false, not_false_eq_true, eq_self, c10, WOr w, R229 w isR90 s.2.1]
          rw [show setI h 90 2 (nI (p + 1 + 1)) = h1 from rfl, X221_45]
          simp only [bI_some, bV_some, bR_some, bL_some, ob_some, cd_t, cd_f, cd_d, okO_setI, okA_setI, okL_setI, aLen_setI, hR_setI, hI_setI, Bool.true_and, Bool.and_true, Bool.and_self, Option.isNone_some, Option.isSome_some, Option.isNone_none, Option.isSome_none, okO_chI, okA_chI, okL_chI, aLen_chI, hR_chI, ↓reduceIte, not_true_eq_false, not_false_eq_true, eq_self, c10]
          rw [X221_48]
          simp only [bI_some, bV_some, bR_some, bL_some, ob_some, cd_t, cd_f, cd_d, okO_setI, okA_setI, okL_setI, aLen_setI, hR_setI, hI_setI, Bool.true_and, Bool.and_true, Bool.and_self, Option.isNone_some, Option.isSome_some, Option.isNone_none, Option.isSome_none, okO_chI, okA_chI, okL_chI, aLen_chI, hR_chI, ↓reduceIte, not_true_eq_false, not_false_eq_true, eq_self, c10, WOr w1, R228 w1 isR90, s1.2.1]
          rw [X221_51, e2]
          simp only [bI_some, bV_some, bR_some, bL_some, ob_some, cd_t, cd_f, cd_d, okO_setI, okA_setI, okL_setI, aLen_setI, hR_setI, hI_setI, Bool.true_and, Bool.and_true, Bool.and_self, Option.isNone_some, Option.isSome_some, Option.isNone_none, Option.isSome_none, okO_chI, okA_chI, okL_chI, aLen_chI, hR_chI, ↓reduceIte, not_true_eq_false, not_false_eq_true, eq_self, c10, WOr w1]
        simp only [bI_some, bV_some, bR_some, bL_some, ob_some, cd_t, cd_f, cd_d, okO_setI, okA_setI, okL_setI, aLen_setI, hR_setI, hI_setI, Bool.true_and, Bool.and_true, Bool.and_self, Option.isNone_some, Option.isSome_some, Option.isNone_none, Option.isSome_none, okO_chI, okA_chI, okL_chI, aLen_chI, hR_chI, ↓reduceIte, not_true_eq_false, not_false_eq_true, eq_self, c10]
        rw [st2]
        rcases o2 with ⟨e, he, o2⟩ | ⟨q, hq, o2, rfl⟩
        · rw [he]
          rcases numT_ok t L 3 (p + 2) (by omega) with ⟨e', he', g1, g2, g3⟩ | ⟨q, hq, -⟩
          · rw [he] at he'
            have : e = e' := by simpa using he'
            subst this
            exact ⟨setI h2 93 n v, T55e w2 u9 hn (o2.ne g1 g2) hd _ _ _ _ _ d, ((Fo.fr f1).tr (Fo.fr f2)).tr (Fo.w n h2 _), Or.inl ⟨_, rfl, o2.w (by omega) _ _⟩⟩
          · rw [he] at hq
            exact absurd hq (by simp)
        · rw [hq]
          rcases numT_ok t L 3 (p + 2) (by omega) with ⟨e', he', -⟩ | ⟨q', hq', g1, g2, g3⟩
          · rw [hq] at he'
            exact absurd he' (by simp)
          · rw [hq] at hq'
            have : q = q' := by simpa using hq'
            subst this
            have g3 : q.2 + 1 ≤ 1000 := g3
            have ha : a < 90 := by
              obtain ⟨b, k, hb, hk, rfl⟩ := hd
              omega
            obtain ⟨h', e, F', O'⟩ := T55 w2 (T1.fr isR90 f2) hL o2 g2 (by omega) u9 hn ((f2.2 94 n (by omega)).trans ((f1.2 94 n (by omega)).trans e94)) hd ((f2.2 a 2 (by omega)).trans ((f1.2 a 2 (by omega)).trans eF)) hF (sg := t (p + 1)) (p := p) (by omega) 0 d
            exact ⟨h', e, ((Fo.fr f1).tr (Fo.fr f2)).tr F', O'⟩
  · rw [if_neg c]
    have no : ∀ m, m < 1000 → sgT m = true → ¬ pkI t L (p + 1) = nI m := fun m hm hs z => by
      have := (pe m hm).mp z
      exact c ⟨this.1, by rw [this.2]; exact hs⟩
    have n1 : ¬ pkI t L (p + 1) = 33 := no 33 (by omega) rfl
    have n2 : ¬ pkI t L (p + 1) = 63 := no 63 (by omega) rfl
    have n3 : ¬ pkI t L (p + 1) = 64 := no 64 (by omega) rfl
    have n4 : ¬ pkI t L (p + 1) = 35 := no 35 (by omega) rfl
    have n5 : ¬ pkI t L (p + 1) = 43 := no 43 (by omega) rfl
    have n6 : ¬ pkI t L (p + 1) = 45 := no 45 (by omega) rfl
    refine ⟨setI (setI h 90 3 1) 90 4 (nI (p + 1)), ?_, Fo.fr (Fr.bl 90 h _ _), Or.inl ⟨_, rfl, Re.bl 90 h 1 (p + 1)⟩⟩
    simp only [bI_some, bV_some, bR_some, bL_some, ob_some, cd_t, cd_f, cd_d, okO_setI, okA_setI, okL_setI, aLen_setI, hR_setI, hI_setI, Bool.true_and, Bool.and_true, Bool.and_self, Option.isNone_some, Option.isSome_some, Option.isNone_none, Option.isSome_none, okO_chI, okA_chI, okL_chI, aLen_chI, hR_chI, ↓reduceIte, not_true_eq_false, not_false_eq_true, eq_self, c10, X221, X221_3, X221_8, X221_10, X221_13, X221_18, X221_20, X221_22, X221_24, X221_27, X221_30, WOr w, R232 w isR90 s.2.1 s.2.2, X221_32, n1, n2, n3, n4, n5, n6]
