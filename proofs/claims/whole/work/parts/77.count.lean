/-! sets of drums; count -/
def tdk (h : rz_H) (k : Nat) : Bool := !decide (hI h 110 (256 + k) = 0)
def rnk (h : rz_H) (k : Nat) : Bool := tdk h k && (!decide (hI h 110 (272 + k) = 0) && decide (hI h 110 (296 + k) = 0))
def pdk (h : rz_H) (k : Nat) : Bool := tdk h k && decide (hI h 110 (296 + k) = 1)
def fbs (c : Nat → Bool) : Nat := itr (fun k s => if c k = true then s ||| 2 ^ k else s) 0 8 0
theorem fbs_lt (c : Nat → Bool) : fbs c < 65536 := by
  unfold fbs
  have key : ∀ n, n ≤ 8 → itr (fun k s => if c k = true then s ||| 2 ^ k else s) 0 n 0 < 65536 := by
    intro n
    induction n with
    | zero => intro _; show 0 < 65536; omega
    | succ n ih =>
      intro hn
      rw [itr_succ, Nat.zero_add]
      have := ih (by omega)
      split
      · exact or_lt this (pw_lt (by omega))
      · exact this
  exact key 8 (by omega)
theorem L142 {rb dr : Nat} {jd : Option Nat} {h : rz_H} (w : Wf rb dr jd h) {A : Nat} (hA : isL A) (r1 : LaOk h A) (r2 : LaRel h A 110) {k : Nat} (hk : k < 8) (d : Nat) : cW (d + 1) 142 [rz_r (some (A + 2 + 3 * k))] h = some (rz_i (bI1 (tdk h k)), h) := by
  obtain ⟨F, p, t, v, s, q, g, e, D⟩ := mkDv hA r1 r2 hk
  obtain ⟨d1, d2, d3, d4, d5, d6, d7, d8, d9, d10, d11, d12, d13, d14, d15, d16, d17, d18, d19, d20, d21⟩ := D
  rw [S142 w d1, d9]
  unfold tdk
  rw [d15]
  rcases Nat.eq_zero_or_pos F with hF | hF
  · subst hF; rfl
  · rw [if_neg (nI_nle hF (by omega)), decide_eq_false (nI_ne0 hF (by omega))]; rfl
theorem L143 {rb dr : Nat} {jd : Option Nat} {h : rz_H} (w : Wf rb dr jd h) {A : Nat} (hA : isL A) (r1 : LaOk h A) (r2 : LaRel h A 110) {k : Nat} (hk : k < 8) (d : Nat) : cW (d + 1) 143 [rz_r (some (A + 2 + 3 * k))] h = some (rz_i (bI1 (rnk h k)), h) := by
  obtain ⟨F, p, t, v, s, q, g, e, D⟩ := mkDv hA r1 r2 hk
  obtain ⟨d1, d2, d3, d4, d5, d6, d7, d8, d9, d10, d11, d12, d13, d14, d15, d16, d17, d18, d19, d20, d21⟩ := D
  rw [S143 w d1, d9, d11, d14]
  unfold rnk tdk
  rw [d15, d17, d20]
  rcases Nat.eq_zero_or_pos F with hF | hF
  · subst hF
    rw [if_pos (Or.inl (by decide))]; rfl
  · have n1 := nI_nle hF (show F < 2 ^ 31 by omega)
    rw [decide_eq_false (nI_ne0 hF (by omega))]
    rcases Nat.eq_zero_or_pos t with ht | ht
    · subst ht
      rw [if_pos (Or.inr (Or.inl (by decide)))]; rfl
    · have n2 := nI_nle ht (show t < 2 ^ 31 by omega)
      rw [decide_eq_false (nI_ne0 ht (by omega))]
      by_cases hq : nI q = 0
      · rw [if_neg (fun x => by
          rcases x with x | x | x
          · exact n1 x
          · exact n2 x
          · exact x hq), decide_eq_true hq]; rfl
      · rw [if_pos (Or.inr (Or.inr hq)), decide_eq_false hq]; rfl
theorem V45 {rb dr : Nat} {jd : Option Nat} {h : rz_H} (w : Wf rb dr jd h) {A : Nat} (hA : isL A) (r1 : LaOk h A) (r2 : LaRel h A 110) {k : Nat} (hk : k < 8) (d : Nat) : cW (d + 3) 45 [rz_r (some 109), rz_i (nI k)] h = some (rz_i (bI1 (rnk h k)), h) := by
  have v39 := V39 w hA r1 r2 hk
  obtain ⟨F, p, t, v, s, q, g, e, D⟩ := mkDv hA r1 r2 hk
  obtain ⟨d1, d2, d3, d4, d5, d6, d7, d8, d9, d10, d11, d12, d13, d14, d15, d16, d17, d18, d19, d20, d21⟩ := D
  rw [show (!decide (hI h 110 (256 + k) = 0)) = tdk h k from rfl] at v39
  rw [E45]
  unfold rnk
  cases htd : tdk h k with
  | false =>
    rw [htd] at v39
    simp (disch := omega) only [bI_some, bV_some, bR_some, bL_some, ob_some, cd_t, cd_f, cd_d, okO_setI, okA_setI, okL_setI, aLen_setI, hR_setI, hI_setI, Bool.true_and, Bool.and_true, Bool.and_self, Option.isNone_some, Option.isSome_some, Option.isNone_none, Option.isSome_none, okO_chI, okA_chI, okL_chI, aLen_chI, hR_chI, ↓reduceIte, not_true_eq_false, not_false_eq_true, eq_self, c10, Nat.zero_add, nI_add, litA, litB, litM, nI_mul, nI_leI, nI_ltI, nI_eq, litLe, litLe2, litLt, litLt2, litEq, litEq2, in_nI, lit_in, nI_clamp, lit_cl, if_pos, if_neg, WMd w, v39, bI1, Bool.false_eq_true, Bool.false_and]
  | true =>
    rw [htd] at v39
    rw [d17, d20]
    rcases Nat.eq_zero_or_pos t with ht | ht
    · subst ht
      have z : nI 0 = (0 : Int32) := rfl
      simp (disch := omega) only [bI_some, bV_some, bR_some, bL_some, ob_some, cd_t, cd_f, cd_d, okO_setI, okA_setI, okL_setI, aLen_setI, hR_setI, hI_setI, Bool.true_and, Bool.and_true, Bool.and_self, Option.isNone_some, Option.isSome_some, Option.isNone_none, Option.isSome_none, okO_chI, okA_chI, okL_chI, aLen_chI, hR_chI, ↓reduceIte, not_true_eq_false, not_false_eq_true, eq_self, c10, Nat.zero_add, nI_add, litA, litB, litM, nI_mul, nI_leI, nI_ltI, nI_eq, litLe, litLe2, litLt, litLt2, litEq, litEq2, in_nI, lit_in, nI_clamp, lit_cl, if_pos, if_neg, WMd w, v39, bI1, d17, z, decide_true, Bool.not_true, Bool.false_and, Bool.and_false, Bool.false_eq_true, Int32.le_refl]
    · have n2 := nI_nle ht (show t < 2 ^ 31 by omega)
      have n3 := nI_ne0 ht (show t < 2 ^ 31 by omega)
      by_cases hq : nI q = 0 <;> simp (disch := omega) only [bI_some, bV_some, bR_some, bL_some, ob_some, cd_t, cd_f, cd_d, okO_setI, okA_setI, okL_setI, aLen_setI, hR_setI, hI_setI, Bool.true_and, Bool.and_true, Bool.and_self, Option.isNone_some, Option.isSome_some, Option.isNone_none, Option.isSome_none, okO_chI, okA_chI, okL_chI, aLen_chI, hR_chI, ↓reduceIte, not_true_eq_false, not_false_eq_true, eq_self, c10, Nat.zero_add, nI_add, litA, litB, litM, nI_mul, nI_leI, nI_ltI, nI_eq, litLe, litLe2, litLt, litLt2, litEq, litEq2, in_nI, lit_in, nI_clamp, lit_cl, if_pos, if_neg, WMd w, v39, bI1, d17, d20, n2, n3, hq, decide_true, decide_false, Bool.not_false, Bool.true_and, Bool.and_false, Bool.false_eq_true]
theorem or0 (x : Int32) : x ||| (0 : Int32) = x := Int32.or_zero
theorem L183 {rb dr : Nat} {jd : Option Nat} {h : rz_H} (w : Wf rb dr jd h) {A : Nat} (hA : isL A) (r1 : LaOk h A) (r2 : LaRel h A 110) (d : Nat) : cW (d + 2) 183 [rz_r (some A)] h = some (rz_i (nI (fbs (tdk h))), h) := by
  rw [E183]
  refine Eq.trans (lp_i0 (fun k s => rW (d + 1) 183 (4, (0, 0), [some (rz_r (some A)), some (rz_i (nI s)), some (rz_i (nI k))], [], h)) (fun k s => if tdk h k = true then s ||| 2 ^ k else s) 8 0 (fun k s hk => ?_)) ?_
  · obtain ⟨k1, k2⟩ := WLk w hA hk
    rw [E183_4]
    cases htd : tdk h k <;> simp (disch := omega) only [bI_some, bV_some, bR_some, bL_some, ob_some, cd_t, cd_f, cd_d, okO_setI, okA_setI, okL_setI, aLen_setI, hR_setI, hI_setI, Bool.true_and, Bool.and_true, Bool.and_self, Option.isNone_some, Option.isSome_some, Option.isNone_none, Option.isSome_none, okO_chI, okA_chI, okL_chI, aLen_chI, hR_chI, ↓reduceIte, not_true_eq_false, not_false_eq_true, eq_self, c10, Nat.zero_add, nI_add, litA, litB, litM, nI_mul, nI_leI, nI_ltI, nI_eq, litLe, litLe2, litLt, litLt2, litEq, litEq2, in_nI, lit_in, nI_clamp, lit_cl, if_pos, if_neg, WLd w hA, k1, WD w k2, L142 w hA r1 r2 hk, htd, bI1, or0, bit_nI, nI_or, Bool.false_eq_true]
  · rw [E183_4]
    simp (disch := omega) only [bI_some, bV_some, bR_some, bL_some, ob_some, cd_t, cd_f, cd_d, okO_setI, okA_setI, okL_setI, aLen_setI, hR_setI, hI_setI, Bool.true_and, Bool.and_true, Bool.and_self, Option.isNone_some, Option.isSome_some, Option.isNone_none, Option.isSome_none, okO_chI, okA_chI, okL_chI, aLen_chI, hR_chI, ↓reduceIte, not_true_eq_false, not_false_eq_true, eq_self, c10, Nat.zero_add, nI_add, litA, litB, litM, nI_mul, nI_leI, nI_ltI, nI_eq, litLe, litLe2, litLt, litLt2, litEq, litEq2, in_nI, lit_in, nI_clamp, lit_cl, if_pos, if_neg, WLd w hA]
    rfl
theorem L184 {rb dr : Nat} {jd : Option Nat} {h : rz_H} (w : Wf rb dr jd h) {A : Nat} (hA : isL A) (r1 : LaOk h A) (r2 : LaRel h A 110) (d : Nat) : cW (d + 2) 184 [rz_r (some A)] h = some (rz_i (nI (fbs (rnk h))), h) := by
  rw [E184]
  refine Eq.trans (lp_i0 (fun k s => rW (d + 1) 184 (4, (0, 0), [some (rz_r (some A)), some (rz_i (nI s)), some (rz_i (nI k))], [], h)) (fun k s => if rnk h k = true then s ||| 2 ^ k else s) 8 0 (fun k s hk => ?_)) ?_
  · obtain ⟨k1, k2⟩ := WLk w hA hk
    rw [E184_4]
    cases htd : rnk h k <;> simp (disch := omega) only [bI_some, bV_some, bR_some, bL_some, ob_some, cd_t, cd_f, cd_d, okO_setI, okA_setI, okL_setI, aLen_setI, hR_setI, hI_setI, Bool.true_and, Bool.and_true, Bool.and_self, Option.isNone_some, Option.isSome_some, Option.isNone_none, Option.isSome_none, okO_chI, okA_chI, okL_chI, aLen_chI, hR_chI, ↓reduceIte, not_true_eq_false, not_false_eq_true, eq_self, c10, Nat.zero_add, nI_add, litA, litB, litM, nI_mul, nI_leI, nI_ltI, nI_eq, litLe, litLe2, litLt, litLt2, litEq, litEq2, in_nI, lit_in, nI_clamp, lit_cl, if_pos, if_neg, WLd w hA, k1, WD w k2, L143 w hA r1 r2 hk, htd, bI1, or0, bit_nI, nI_or, Bool.false_eq_true]
  · rw [E184_4]
    simp (disch := omega) only [bI_some, bV_some, bR_some, bL_some, ob_some, cd_t, cd_f, cd_d, okO_setI, okA_setI, okL_setI, aLen_setI, hR_setI, hI_setI, Bool.true_and, Bool.and_true, Bool.and_self, Option.isNone_some, Option.isSome_some, Option.isNone_none, Option.isSome_none, okO_chI, okA_chI, okL_chI, aLen_chI, hR_chI, ↓reduceIte, not_true_eq_false, not_false_eq_true, eq_self, c10, Nat.zero_add, nI_add, litA, litB, litM, nI_mul, nI_leI, nI_ltI, nI_eq, litLe, litLe2, litLt, litLt2, litEq, litEq2, in_nI, lit_in, nI_clamp, lit_cl, if_pos, if_neg, WLd w hA]
    rfl
theorem L185 {rb dr : Nat} {jd : Option Nat} {h : rz_H} (w : Wf rb dr jd h) {A : Nat} (hA : isL A) (r1 : LaOk h A) (r2 : LaRel h A 110) (d : Nat) : cW (d + 2) 185 [rz_r (some A)] h = some (rz_i (nI (fbs (pdk h))), h) := by
  rw [E185]
  refine Eq.trans (lp_i0 (fun k s => rW (d + 1) 185 (4, (0, 0), [some (rz_r (some A)), some (rz_i (nI s)), some (rz_i (nI k))], [], h)) (fun k s => if pdk h k = true then s ||| 2 ^ k else s) 8 0 (fun k s hk => ?_)) ?_
  · obtain ⟨k1, k2⟩ := WLk w hA hk
    have l142 := L142 w hA r1 r2 hk
    obtain ⟨F, p, t, v, s2, q, g, e, D⟩ := mkDv hA r1 r2 hk
    obtain ⟨d1, d2, d3, d4, d5, d6, d7, d8, d9, d10, d11, d12, d13, d14, d15, d16, d17, d18, d19, d20, d21⟩ := D
    have l141 : ∀ d, cW (d + 1) 141 [rz_r (some (A + 2 + 3 * k))] h = some (rz_i (nI q), h) := fun d => by
      rw [S141 w d1 d (by rw [d14]; rcases (show q = 0 ∨ q = 1 by omega) with rfl | rfl; exact Or.inl rfl; exact Or.inr rfl), d14]
    rw [E185_4]
    unfold pdk
    rw [d20]
    rcases (show q = 0 ∨ q = 1 by omega) with rfl | rfl
    · cases htd : tdk h k <;> rw [htd] at l142 <;> simp (disch := omega) only [bI_some, bV_some, bR_some, bL_some, ob_some, cd_t, cd_f, cd_d, okO_setI, okA_setI, okL_setI, aLen_setI, hR_setI, hI_setI, Bool.true_and, Bool.and_true, Bool.and_self, Option.isNone_some, Option.isSome_some, Option.isNone_none, Option.isSome_none, okO_chI, okA_chI, okL_chI, aLen_chI, hR_chI, ↓reduceIte, not_true_eq_false, not_false_eq_true, eq_self, c10, Nat.zero_add, nI_add, litA, litB, litM, nI_mul, nI_leI, nI_ltI, nI_eq, litLe, litLe2, litLt, litLt2, litEq, litEq2, in_nI, lit_in, nI_clamp, lit_cl, if_pos, if_neg, WLd w hA, k1, WD w k2, l142, l141, bI1, or0, bit_nI, nI_or, Bool.false_eq_true, Bool.false_and, Bool.true_and, show decide (nI 0 = (1 : Int32)) = false from rfl, show decide ((0 : Int32) = 1) = false from rfl, show nI 0 = (0 : Int32) from rfl]
    · cases htd : tdk h k <;> rw [htd] at l142 <;> simp (disch := omega) only [bI_some, bV_some, bR_some, bL_some, ob_some, cd_t, cd_f, cd_d, okO_setI, okA_setI, okL_setI, aLen_setI, hR_setI, hI_setI, Bool.true_and, Bool.and_true, Bool.and_self, Option.isNone_some, Option.isSome_some, Option.isNone_none, Option.isSome_none, okO_chI, okA_chI, okL_chI, aLen_chI, hR_chI, ↓reduceIte, not_true_eq_false, not_false_eq_true, eq_self, c10, Nat.zero_add, nI_add, litA, litB, litM, nI_mul, nI_leI, nI_ltI, nI_eq, litLe, litLe2, litLt, litLt2, litEq, litEq2, in_nI, lit_in, nI_clamp, lit_cl, if_pos, if_neg, WLd w hA, k1, WD w k2, l142, l141, bI1, or0, bit_nI, nI_or, Bool.false_eq_true, Bool.false_and, Bool.true_and, show decide (nI 1 = (1 : Int32)) = true from rfl, decide_true]
  · rw [E185_4]
    simp (disch := omega) only [bI_some, bV_some, bR_some, bL_some, ob_some, cd_t, cd_f, cd_d, okO_setI, okA_setI, okL_setI, aLen_setI, hR_setI, hI_setI, Bool.true_and, Bool.and_true, Bool.and_self, Option.isNone_some, Option.isSome_some, Option.isNone_none, Option.isSome_none, okO_chI, okA_chI, okL_chI, aLen_chI, hR_chI, ↓reduceIte, not_true_eq_false, not_false_eq_true, eq_self, c10, Nat.zero_add, nI_add, litA, litB, litM, nI_mul, nI_leI, nI_ltI, nI_eq, litLe, litLe2, litLt, litLt2, litEq, litEq2, in_nI, lit_in, nI_clamp, lit_cl, if_pos, if_neg, WLd w hA]
    rfl
theorem V88 {rb dr : Nat} {jd : Option Nat} {h : rz_H} (w : Wf rb dr jd h) {A : Nat} (hA : isL A) (r1 : LaOk h A) (r2 : LaRel h A 110) (d : Nat) : cW (d + 4) 88 [rz_r (some 109)] h = some (rz_i (nI (fbs (rnk h))), h) := by
  rw [E88]
  refine Eq.trans (lp_i0 (fun k s => rW (d + 3) 88 (4, (0, 0), [some (rz_r (some 109)), some (rz_i (nI s)), some (rz_i (nI k))], [], h)) (fun k s => if rnk h k = true then s ||| 2 ^ k else s) 8 0 (fun k s hk => ?_)) ?_
  · rw [E88_4]
    cases htd : rnk h k <;> simp (disch := omega) only [bI_some, bV_some, bR_some, bL_some, ob_some, cd_t, cd_f, cd_d, okO_setI, okA_setI, okL_setI, aLen_setI, hR_setI, hI_setI, Bool.true_and, Bool.and_true, Bool.and_self, Option.isNone_some, Option.isSome_some, Option.isNone_none, Option.isSome_none, okO_chI, okA_chI, okL_chI, aLen_chI, hR_chI, ↓reduceIte, not_true_eq_false, not_false_eq_true, eq_self, c10, Nat.zero_add, nI_add, litA, litB, litM, nI_mul, nI_leI, nI_ltI, nI_eq, litLe, litLe2, litLt, litLt2, litEq, litEq2, in_nI, lit_in, nI_clamp, lit_cl, if_pos, if_neg, WMd w, V45 w hA r1 r2 hk, htd, bI1, bit_nI, nI_or, Bool.false_eq_true]
  · rw [E88_4]
    simp (disch := omega) only [bI_some, bV_some, bR_some, bL_some, ob_some, cd_t, cd_f, cd_d, okO_setI, okA_setI, okL_setI, aLen_setI, hR_setI, hI_setI, Bool.true_and, Bool.and_true, Bool.and_self, Option.isNone_some, Option.isSome_some, Option.isNone_none, Option.isSome_none, okO_chI, okA_chI, okL_chI, aLen_chI, hR_chI, ↓reduceIte, not_true_eq_false, not_false_eq_true, eq_self, c10, Nat.zero_add, nI_add, litA, litB, litM, nI_mul, nI_leI, nI_ltI, nI_eq, litLe, litLe2, litLt, litLt2, litEq, litEq2, in_nI, lit_in, nI_clamp, lit_cl, if_pos, if_neg]
    rfl
theorem V89 {rb dr : Nat} {jd : Option Nat} {h : rz_H} (w : Wf rb dr jd h) {A : Nat} (hA : isL A) (r1 : LaOk h A) (r2 : LaRel h A 110) (d : Nat) : cW (d + 3) 89 [rz_r (some 109)] h = some (rz_i (nI (fbs (pdk h))), h) := by
  rw [E89]
  refine Eq.trans (lp_i0 (fun k s => rW (d + 2) 89 (4, (0, 0), [some (rz_r (some 109)), some (rz_i (nI s)), some (rz_i (nI k))], [], h)) (fun k s => if pdk h k = true then s ||| 2 ^ k else s) 8 0 (fun k s hk => ?_)) ?_
  · have v39 := V39 w hA r1 r2 hk
    rw [show (!decide (hI h 110 (256 + k) = 0)) = tdk h k from rfl] at v39
    rw [E89_4]
    unfold pdk
    by_cases hq : hI h 110 (296 + k) = 1 <;> cases htd : tdk h k <;> rw [htd] at v39 <;> simp (disch := omega) only [bI_some, bV_some, bR_some, bL_some, ob_some, cd_t, cd_f, cd_d, okO_setI, okA_setI, okL_setI, aLen_setI, hR_setI, hI_setI, Bool.true_and, Bool.and_true, Bool.and_self, Option.isNone_some, Option.isSome_some, Option.isNone_none, Option.isSome_none, okO_chI, okA_chI, okL_chI, aLen_chI, hR_chI, ↓reduceIte, not_true_eq_false, not_false_eq_true, eq_self, c10, Nat.zero_add, nI_add, litA, litB, litM, nI_mul, nI_leI, nI_ltI, nI_eq, litLe, litLe2, litLt, litLt2, litEq, litEq2, in_nI, lit_in, nI_clamp, lit_cl, if_pos, if_neg, WMd w, v39, bI1, hq, bit_nI, nI_or, Bool.false_eq_true, decide_true, decide_false, Bool.false_and, Bool.and_false, Bool.true_and]
  · rw [E89_4]
    simp (disch := omega) only [bI_some, bV_some, bR_some, bL_some, ob_some, cd_t, cd_f, cd_d, okO_setI, okA_setI, okL_setI, aLen_setI, hR_setI, hI_setI, Bool.true_and, Bool.and_true, Bool.and_self, Option.isNone_some, Option.isSome_some, Option.isNone_none, Option.isSome_none, okO_chI, okA_chI, okL_chI, aLen_chI, hR_chI, ↓reduceIte, not_true_eq_false, not_false_eq_true, eq_self, c10, Nat.zero_add, nI_add, litA, litB, litM, nI_mul, nI_leI, nI_ltI, nI_eq, litLe, litLe2, litLt, litLt2, litEq, litEq2, in_nI, lit_in, nI_clamp, lit_cl, if_pos, if_neg]
    rfl
def tns (h : rz_H) : Int32 := itr (fun k s => if tdk h k = true then s + hI h 110 (272 + k) else s) 0 8 0
theorem L186 {rb dr : Nat} {jd : Option Nat} {h : rz_H} (w : Wf rb dr jd h) {A : Nat} (hA : isL A) (r1 : LaOk h A) (r2 : LaRel h A 110) (d : Nat) : cW (d + 2) 186 [rz_r (some A)] h = some (rz_i (tns h), h) := by
  rw [E186]
  refine Eq.trans (lp_i0 (fun k s => rW (d + 1) 186 (4, (0, 0), [some (rz_r (some A)), some (rz_i s), some (rz_i (nI k))], [], h)) (fun k s => if tdk h k = true then s + hI h 110 (272 + k) else s) 8 0 (fun k s hk => ?_)) ?_
  · obtain ⟨k1, k2⟩ := WLk w hA hk
    have e4 : hI h (A + 2 + 3 * k) 4 = hI h 110 (272 + k) := (r2.1 k hk).2.2.1
    rw [E186_4]
    cases htd : tdk h k <;> simp (disch := omega) only [bI_some, bV_some, bR_some, bL_some, ob_some, cd_t, cd_f, cd_d, okO_setI, okA_setI, okL_setI, aLen_setI, hR_setI, hI_setI, Bool.true_and, Bool.and_true, Bool.and_self, Option.isNone_some, Option.isSome_some, Option.isNone_none, Option.isSome_none, okO_chI, okA_chI, okL_chI, aLen_chI, hR_chI, ↓reduceIte, not_true_eq_false, not_false_eq_true, eq_self, c10, Nat.zero_add, nI_add, litA, litB, litM, nI_mul, nI_leI, nI_ltI, nI_eq, litLe, litLe2, litLt, litLt2, litEq, litEq2, in_nI, lit_in, nI_clamp, lit_cl, if_pos, if_neg, WLd w hA, k1, WD w k2, L142 w hA r1 r2 hk, S138 w k2, e4, htd, bI1, Int32.add_zero, Bool.false_eq_true]
  · rw [E186_4]
    simp (disch := omega) only [bI_some, bV_some, bR_some, bL_some, ob_some, cd_t, cd_f, cd_d, okO_setI, okA_setI, okL_setI, aLen_setI, hR_setI, hI_setI, Bool.true_and, Bool.and_true, Bool.and_self, Option.isNone_some, Option.isSome_some, Option.isNone_none, Option.isSome_none, okO_chI, okA_chI, okL_chI, aLen_chI, hR_chI, ↓reduceIte, not_true_eq_false, not_false_eq_true, eq_self, c10, Nat.zero_add, nI_add, litA, litB, litM, nI_mul, nI_leI, nI_ltI, nI_eq, litLe, litLe2, litLt, litLt2, litEq, litEq2, in_nI, lit_in, nI_clamp, lit_cl, if_pos, if_neg, WLd w hA]
    rfl
theorem P31 (x : Int32) : Pr Rel 31 134 [rz_i x] := by
  intro h r
  obtain ⟨rb, dr, jd, w, r1, r2, r3, r4, r5⟩ := id r
  obtain ⟨n, t, T⟩ := mkTq r3
  have hL : isL 3 := Or.inl rfl
  have hrb := lw_rb w
  have hW : isW rb := by unfold isW; omega
  have key : ∀ u, cW 100 31 [rz_r (some 0), rz_i x] h = some (rz_i u, h) → cW 100 134 [rz_r (some 109), rz_i x] h = some (rz_i u, h) → ∃ v h1 h2, cW DD 31 [rz_r (some 0), rz_i x] h = some (rz_i v, h1) ∧ cW DD 134 [rz_r (some 109), rz_i x] h1 = some (rz_i v, h2) ∧ okO h1 109 [10] = true ∧ Rel h2 := fun u e1 e2 => ⟨u, h, h, e1, e2, (WMd w).1, r⟩
  by_cases y0 : x = Int32.ofNat 0
  · refine key (hI h 3 1) ?_ ?_
    · rw [E31]; simp only [bI_some, bV_some, bR_some, bL_some, ob_some, cd_t, cd_f, cd_d, okO_setI, okA_setI, okL_setI, aLen_setI, hR_setI, hI_setI, Bool.true_and, Bool.and_true, Bool.and_self, Option.isNone_some, Option.isSome_some, Option.isNone_none, Option.isSome_none, okO_chI, okA_chI, okL_chI, aLen_chI, hR_chI, ↓reduceIte, not_true_eq_false, not_false_eq_true, eq_self, c10, if_pos y0, WRt w, S178 w hL]
    · rw [E134]; simp (disch := omega) only [bI_some, bV_some, bR_some, bL_some, ob_some, cd_t, cd_f, cd_d, okO_setI, okA_setI, okL_setI, aLen_setI, hR_setI, hI_setI, Bool.true_and, Bool.and_true, Bool.and_self, Option.isNone_some, Option.isSome_some, Option.isNone_none, Option.isSome_none, okO_chI, okA_chI, okL_chI, aLen_chI, hR_chI, ↓reduceIte, not_true_eq_false, not_false_eq_true, eq_self, c10, lit_in, lit_cl, if_pos y0, WMd w, r2.2.1]
  by_cases y1 : x = Int32.ofNat 1
  · refine key (nI (fbs (tdk h))) ?_ ?_
    · rw [E31]; simp only [bI_some, bV_some, bR_some, bL_some, ob_some, cd_t, cd_f, cd_d, okO_setI, okA_setI, okL_setI, aLen_setI, hR_setI, hI_setI, Bool.true_and, Bool.and_true, Bool.and_self, Option.isNone_some, Option.isSome_some, Option.isNone_none, Option.isSome_none, okO_chI, okA_chI, okL_chI, aLen_chI, hR_chI, ↓reduceIte, not_true_eq_false, not_false_eq_true, eq_self, c10, if_neg y0, if_pos y1, WRt w, L183 w hL r1 r2]
    · rw [E134]; simp only [bI_some, bV_some, bR_some, bL_some, ob_some, cd_t, cd_f, cd_d, okO_setI, okA_setI, okL_setI, aLen_setI, hR_setI, hI_setI, Bool.true_and, Bool.and_true, Bool.and_self, Option.isNone_some, Option.isSome_some, Option.isNone_none, Option.isSome_none, okO_chI, okA_chI, okL_chI, aLen_chI, hR_chI, ↓reduceIte, not_true_eq_false, not_false_eq_true, eq_self, c10, if_neg y0, if_pos y1]
      refine lp_j (fun k s j => rW 99 134 (11, (0, 0), [some (rz_r (some 109)), j, some (rz_i (nI s)), some (rz_i (nI k))], [], h)) (fun s => some (rz_i (nI s), h)) (fun k s => if tdk h k = true then s ||| 2 ^ k else s) 8 (fun k s j hk => ⟨none, ?_⟩) (fun s j => ?_) 8 0 0 (some (rz_i x)) (by omega)
      · have v39 := V39 w hL r1 r2 hk
        rw [show (!decide (hI h 110 (256 + k) = 0)) = tdk h k from rfl] at v39
        rw [E134_11]
        cases htd : tdk h k <;> rw [htd] at v39 <;> simp (disch := omega) only [bI_some, bV_some, bR_some, bL_some, ob_some, cd_t, cd_f, cd_d, okO_setI, okA_setI, okL_setI, aLen_setI, hR_setI, hI_setI, Bool.true_and, Bool.and_true, Bool.and_self, Option.isNone_some, Option.isSome_some, Option.isNone_none, Option.isSome_none, okO_chI, okA_chI, okL_chI, aLen_chI, hR_chI, ↓reduceIte, not_true_eq_false, not_false_eq_true, eq_self, c10, Nat.zero_add, nI_add, litA, litB, litM, nI_mul, nI_leI, nI_ltI, nI_eq, litLe, litLe2, litLt, litLt2, litEq, litEq2, in_nI, lit_in, nI_clamp, lit_cl, if_pos, if_neg, WMd w, v39, bI1, bit_nI, nI_or, Bool.false_eq_true]
      · rw [E134_11]
        simp (disch := omega) only [bI_some, bV_some, bR_some, bL_some, ob_some, cd_t, cd_f, cd_d, okO_setI, okA_setI, okL_setI, aLen_setI, hR_setI, hI_setI, Bool.true_and, Bool.and_true, Bool.and_self, Option.isNone_some, Option.isSome_some, Option.isNone_none, Option.isSome_none, okO_chI, okA_chI, okL_chI, aLen_chI, hR_chI, ↓reduceIte, not_true_eq_false, not_false_eq_true, eq_self, c10, Nat.zero_add, nI_add, litA, litB, litM, nI_mul, nI_leI, nI_ltI, nI_eq, litLe, litLe2, litLt, litLt2, litEq, litEq2, in_nI, lit_in, nI_clamp, lit_cl, if_pos, if_neg]
  by_cases y2 : x = Int32.ofNat 2
  · refine key (nI (fbs (rnk h))) ?_ ?_
    · rw [E31]; simp only [bI_some, bV_some, bR_some, bL_some, ob_some, cd_t, cd_f, cd_d, okO_setI, okA_setI, okL_setI, aLen_setI, hR_setI, hI_setI, Bool.true_and, Bool.and_true, Bool.and_self, Option.isNone_some, Option.isSome_some, Option.isNone_none, Option.isSome_none, okO_chI, okA_chI, okL_chI, aLen_chI, hR_chI, ↓reduceIte, not_true_eq_false, not_false_eq_true, eq_self, c10, if_neg y0, if_neg y1, if_pos y2, WRt w, L184 w hL r1 r2]
    · rw [E134]; simp only [bI_some, bV_some, bR_some, bL_some, ob_some, cd_t, cd_f, cd_d, okO_setI, okA_setI, okL_setI, aLen_setI, hR_setI, hI_setI, Bool.true_and, Bool.and_true, Bool.and_self, Option.isNone_some, Option.isSome_some, Option.isNone_none, Option.isSome_none, okO_chI, okA_chI, okL_chI, aLen_chI, hR_chI, ↓reduceIte, not_true_eq_false, not_false_eq_true, eq_self, c10, if_neg y0, if_neg y1, if_pos y2, WMd w, V88 w hL r1 r2]
  by_cases y3 : x = Int32.ofNat 3
  · refine key (nI (fbs (pdk h))) ?_ ?_
    · rw [E31]; simp only [bI_some, bV_some, bR_some, bL_some, ob_some, cd_t, cd_f, cd_d, okO_setI, okA_setI, okL_setI, aLen_setI, hR_setI, hI_setI, Bool.true_and, Bool.and_true, Bool.and_self, Option.isNone_some, Option.isSome_some, Option.isNone_none, Option.isSome_none, okO_chI, okA_chI, okL_chI, aLen_chI, hR_chI, ↓reduceIte, not_true_eq_false, not_false_eq_true, eq_self, c10, if_neg y0, if_neg y1, if_neg y2, if_pos y3, WRt w, L185 w hL r1 r2]
    · rw [E134]; simp only [bI_some, bV_some, bR_some, bL_some, ob_some, cd_t, cd_f, cd_d, okO_setI, okA_setI, okL_setI, aLen_setI, hR_setI, hI_setI, Bool.true_and, Bool.and_true, Bool.and_self, Option.isNone_some, Option.isSome_some, Option.isNone_none, Option.isSome_none, okO_chI, okA_chI, okL_chI, aLen_chI, hR_chI, ↓reduceIte, not_true_eq_false, not_false_eq_true, eq_self, c10, if_neg y0, if_neg y1, if_neg y2, if_pos y3, WMd w, V89 w hL r1 r2]
  by_cases y4 : x = Int32.ofNat 4
  · refine key (tns h) ?_ ?_
    · rw [E31]; simp only [bI_some, bV_some, bR_some, bL_some, ob_some, cd_t, cd_f, cd_d, okO_setI, okA_setI, okL_setI, aLen_setI, hR_setI, hI_setI, Bool.true_and, Bool.and_true, Bool.and_self, Option.isNone_some, Option.isSome_some, Option.isNone_none, Option.isSome_none, okO_chI, okA_chI, okL_chI, aLen_chI, hR_chI, ↓reduceIte, not_true_eq_false, not_false_eq_true, eq_self, c10, if_neg y0, if_neg y1, if_neg y2, if_neg y3, if_pos y4, WRt w, L186 w hL r1 r2]
    · rw [E134]; simp only [bI_some, bV_some, bR_some, bL_some, ob_some, cd_t, cd_f, cd_d, okO_setI, okA_setI, okL_setI, aLen_setI, hR_setI, hI_setI, Bool.true_and, Bool.and_true, Bool.and_self, Option.isNone_some, Option.isSome_some, Option.isNone_none, Option.isSome_none, okO_chI, okA_chI, okL_chI, aLen_chI, hR_chI, ↓reduceIte, not_true_eq_false, not_false_eq_true, eq_self, c10, if_neg y0, if_neg y1, if_neg y2, if_neg y3, if_pos y4]
      refine lp_j (fun k s j => rW 99 134 (36, (0, 0), [some (rz_r (some 109)), j, some (rz_i s), some (rz_i (nI k))], [], h)) (fun s => some (rz_i s, h)) (fun k s => if tdk h k = true then s + hI h 110 (272 + k) else s) 8 (fun k s j hk => ⟨none, ?_⟩) (fun s j => ?_) 8 0 0 (some (rz_i x)) (by omega)
      · have v39 := V39 w hL r1 r2 hk
        rw [show (!decide (hI h 110 (256 + k) = 0)) = tdk h k from rfl] at v39
        rw [E134_36]
        cases htd : tdk h k <;> rw [htd] at v39 <;> simp (disch := omega) only [bI_some, bV_some, bR_some, bL_some, ob_some, cd_t, cd_f, cd_d, okO_setI, okA_setI, okL_setI, aLen_setI, hR_setI, hI_setI, Bool.true_and, Bool.and_true, Bool.and_self, Option.isNone_some, Option.isSome_some, Option.isNone_none, Option.isSome_none, okO_chI, okA_chI, okL_chI, aLen_chI, hR_chI, ↓reduceIte, not_true_eq_false, not_false_eq_true, eq_self, c10, Nat.zero_add, nI_add, litA, litB, litM, nI_mul, nI_leI, nI_ltI, nI_eq, litLe, litLe2, litLt, litLt2, litEq, litEq2, in_nI, lit_in, nI_clamp, lit_cl, if_pos, if_neg, WMd w, v39, bI1, Bool.false_eq_true]
      · rw [E134_36]
        simp (disch := omega) only [bI_some, bV_some, bR_some, bL_some, ob_some, cd_t, cd_f, cd_d, okO_setI, okA_setI, okL_setI, aLen_setI, hR_setI, hI_setI, Bool.true_and, Bool.and_true, Bool.and_self, Option.isNone_some, Option.isSome_some, Option.isNone_none, Option.isSome_none, okO_chI, okA_chI, okL_chI, aLen_chI, hR_chI, ↓reduceIte, not_true_eq_false, not_false_eq_true, eq_self, c10, Nat.zero_add, nI_add, litA, litB, litM, nI_mul, nI_leI, nI_ltI, nI_eq, litLe, litLe2, litLt, litLt2, litEq, litEq2, in_nI, lit_in, nI_clamp, lit_cl, if_pos, if_neg]
  by_cases y5 : x = Int32.ofNat 5
  · obtain ⟨ln, st, l1, l2, l3, l4, -⟩ := r5
    refine key (nI ln) ?_ ?_
    · rw [E31]; simp only [bI_some, bV_some, bR_some, bL_some, ob_some, cd_t, cd_f, cd_d, okO_setI, okA_setI, okL_setI, aLen_setI, hR_setI, hI_setI, Bool.true_and, Bool.and_true, Bool.and_self, Option.isNone_some, Option.isSome_some, Option.isNone_none, Option.isSome_none, okO_chI, okA_chI, okL_chI, aLen_chI, hR_chI, ↓reduceIte, not_true_eq_false, not_false_eq_true, eq_self, c10, if_neg y0, if_neg y1, if_neg y2, if_neg y3, if_neg y4, if_pos y5, WRt w]
      rw [E166]
      simp only [bI_some, bV_some, bR_some, bL_some, ob_some, cd_t, cd_f, cd_d, okO_setI, okA_setI, okL_setI, aLen_setI, hR_setI, hI_setI, Bool.true_and, Bool.and_true, Bool.and_self, Option.isNone_some, Option.isSome_some, Option.isNone_none, Option.isSome_none, okO_chI, okA_chI, okL_chI, aLen_chI, hR_chI, ↓reduceIte, not_true_eq_false, not_false_eq_true, eq_self, c10, WJg w, WLw w hW]
      rw [E194]
      simp only [bI_some, bV_some, bR_some, bL_some, ob_some, cd_t, cd_f, cd_d, okO_setI, okA_setI, okL_setI, aLen_setI, hR_setI, hI_setI, Bool.true_and, Bool.and_true, Bool.and_self, Option.isNone_some, Option.isSome_some, Option.isNone_none, Option.isSome_none, okO_chI, okA_chI, okL_chI, aLen_chI, hR_chI, ↓reduceIte, not_true_eq_false, not_false_eq_true, eq_self, c10, WLw w hW, l3]
    · rw [E134]; simp only [bI_some, bV_some, bR_some, bL_some, ob_some, cd_t, cd_f, cd_d, okO_setI, okA_setI, okL_setI, aLen_setI, hR_setI, hI_setI, Bool.true_and, Bool.and_true, Bool.and_self, Option.isNone_some, Option.isSome_some, Option.isNone_none, Option.isSome_none, okO_chI, okA_chI, okL_chI, aLen_chI, hR_chI, ↓reduceIte, not_true_eq_false, not_false_eq_true, eq_self, c10, if_neg y0, if_neg y1, if_neg y2, if_neg y3, if_neg y4, if_pos y5, WMd w, l4]
  by_cases y6 : x = Int32.ofNat 6
  · refine key (nI n) ?_ ?_
    · rw [E31]; simp only [bI_some, bV_some, bR_some, bL_some, ob_some, cd_t, cd_f, cd_d, okO_setI, okA_setI, okL_setI, aLen_setI, hR_setI, hI_setI, Bool.true_and, Bool.and_true, Bool.and_self, Option.isNone_some, Option.isSome_some, Option.isNone_none, Option.isSome_none, okO_chI, okA_chI, okL_chI, aLen_chI, hR_chI, ↓reduceIte, not_true_eq_false, not_false_eq_true, eq_self, c10, if_neg y0, if_neg y1, if_neg y2, if_neg y3, if_neg y4, if_neg y5, if_pos y6, WRt w, S268 w, T.2.1]
    · rw [E134]; simp only [bI_some, bV_some, bR_some, bL_some, ob_some, cd_t, cd_f, cd_d, okO_setI, okA_setI, okL_setI, aLen_setI, hR_setI, hI_setI, Bool.true_and, Bool.and_true, Bool.and_self, Option.isNone_some, Option.isSome_some, Option.isNone_none, Option.isSome_none, okO_chI, okA_chI, okL_chI, aLen_chI, hR_chI, ↓reduceIte, not_true_eq_false, not_false_eq_true, eq_self, c10, if_neg y0, if_neg y1, if_neg y2, if_neg y3, if_neg y4, if_neg y5, if_pos y6, WMd w, T.2.2.1]
  by_cases y7 : x = Int32.ofNat 7
  · refine key (hI h 3 2) ?_ ?_
    · rw [E31]; simp only [bI_some, bV_some, bR_some, bL_some, ob_some, cd_t, cd_f, cd_d, okO_setI, okA_setI, okL_setI, aLen_setI, hR_setI, hI_setI, Bool.true_and, Bool.and_true, Bool.and_self, Option.isNone_some, Option.isSome_some, Option.isNone_none, Option.isSome_none, okO_chI, okA_chI, okL_chI, aLen_chI, hR_chI, ↓reduceIte, not_true_eq_false, not_false_eq_true, eq_self, c10, if_neg y0, if_neg y1, if_neg y2, if_neg y3, if_neg y4, if_neg y5, if_neg y6, if_pos y7, WRt w, S179 w hL]
    · rw [E134]; simp (disch := omega) only [bI_some, bV_some, bR_some, bL_some, ob_some, cd_t, cd_f, cd_d, okO_setI, okA_setI, okL_setI, aLen_setI, hR_setI, hI_setI, Bool.true_and, Bool.and_true, Bool.and_self, Option.isNone_some, Option.isSome_some, Option.isNone_none, Option.isSome_none, okO_chI, okA_chI, okL_chI, aLen_chI, hR_chI, ↓reduceIte, not_true_eq_false, not_false_eq_true, eq_self, c10, lit_in, lit_cl, if_neg y0, if_neg y1, if_neg y2, if_neg y3, if_neg y4, if_neg y5, if_neg y6, if_pos y7, WMd w, r2.2.2]
  · refine key (-1) ?_ ?_
    · rw [E31]; simp only [bI_some, bV_some, bR_some, bL_some, ob_some, cd_t, cd_f, cd_d, okO_setI, okA_setI, okL_setI, aLen_setI, hR_setI, hI_setI, Bool.true_and, Bool.and_true, Bool.and_self, Option.isNone_some, Option.isSome_some, Option.isNone_none, Option.isSome_none, okO_chI, okA_chI, okL_chI, aLen_chI, hR_chI, ↓reduceIte, not_true_eq_false, not_false_eq_true, eq_self, c10, if_neg y0, if_neg y1, if_neg y2, if_neg y3, if_neg y4, if_neg y5, if_neg y6, if_neg y7]
    · rw [E134]; simp only [bI_some, bV_some, bR_some, bL_some, ob_some, cd_t, cd_f, cd_d, okO_setI, okA_setI, okL_setI, aLen_setI, hR_setI, hI_setI, Bool.true_and, Bool.and_true, Bool.and_self, Option.isNone_some, Option.isSome_some, Option.isNone_none, Option.isSome_none, okO_chI, okA_chI, okL_chI, aLen_chI, hR_chI, ↓reduceIte, not_true_eq_false, not_false_eq_true, eq_self, c10, if_neg y0, if_neg y1, if_neg y2, if_neg y3, if_neg y4, if_neg y5, if_neg y6, if_neg y7]
