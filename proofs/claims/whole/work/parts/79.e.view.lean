/-! one side's view of a drum, of a land -/
def tOk (F p t v s q : Nat) (g e : Nat → Nat) : Prop := F ≤ 16 ∧ t ≤ 999 ∧ s ≤ 15 ∧ q ≤ 1 ∧ (F = 0 → p = 0 ∧ t = 0 ∧ v = 0 ∧ s = 0 ∧ q = 0) ∧ (0 < F → p < F ∧ v < F) ∧ ∀ i, i < F → g i ≤ 16 ∧ e i ≤ 99
def Dc (h : rz_H) (a F p t v s q : Nat) (g e : Nat → Nat) : Prop := hI h a 2 = nI F ∧ hI h a 3 = nI p ∧ hI h a 4 = nI t ∧ hI h a 5 = nI v ∧ hI h a 6 = nI s ∧ hI h a 7 = nI q ∧ ∀ i, i < F → hI h (a + 1) i = nI (g i) ∧ hI h (a + 2) i = nI (e i)
def Dm (h : rz_H) (k F p t v s q : Nat) (g e : Nat → Nat) : Prop := hI h 110 (256 + k) = nI F ∧ hI h 110 (264 + k) = nI p ∧ hI h 110 (272 + k) = nI t ∧ hI h 110 (280 + k) = nI v ∧ hI h 110 (288 + k) = nI s ∧ hI h 110 (296 + k) = nI q ∧ ∀ i, i < F → hI h 110 (16 * k + i) = nI (g i) ∧ hI h 110 (128 + 16 * k + i) = nI (e i)
theorem C146 {rb dr : Nat} {jd : Option Nat} {h : rz_H} (w : Wf rb dr jd h) {a : Nat} (hd : isD a) {F p t v s q : Nat} {g e : Nat → Nat} (O : tOk F p t v s q g e) (C : Dc h a F p t v s q g e) (h0 : 0 < F) (d : Nat) : cW (d + 1) 146 [rz_r (some a)] h = some (rz_i (nI (shw g e p)), h) := by
  obtain ⟨o1, o2, o3, o4, o5, o6, o7⟩ := O
  obtain ⟨c1, c2, c3, c4, c5, c6, c7⟩ := C
  obtain ⟨hp, hv⟩ := o6 h0
  obtain ⟨b3, b5⟩ := c7 p hp
  obtain ⟨b1, b2⟩ := o7 p hp
  rw [E146]
  unfold shw
  by_cases hc : e p < 99
  · simp (disch := omega) only [bI_some, bV_some, bR_some, bL_some, ob_some, cd_t, cd_f, cd_d, okO_setI, okA_setI, okL_setI, aLen_setI, hR_setI, hI_setI, Bool.true_and, Bool.and_true, Bool.and_self, Option.isNone_some, Option.isSome_some, Option.isNone_none, Option.isSome_none, okO_chI, okA_chI, okL_chI, aLen_chI, hR_chI, ↓reduceIte, not_true_eq_false, not_false_eq_true, eq_self, c10, Nat.zero_add, nI_add, litA, litB, litM, nI_mul, nI_leI, nI_ltI, nI_eq, litLe, litLe2, litLt, litLt2, litEq, litEq2, in_nI, lit_in, nI_clamp, lit_cl, if_pos, if_neg, WD w hd, c2, b3, b5, b2]
  · simp (disch := omega) only [bI_some, bV_some, bR_some, bL_some, ob_some, cd_t, cd_f, cd_d, okO_setI, okA_setI, okL_setI, aLen_setI, hR_setI, hI_setI, Bool.true_and, Bool.and_true, Bool.and_self, Option.isNone_some, Option.isSome_some, Option.isNone_none, Option.isSome_none, okO_chI, okA_chI, okL_chI, aLen_chI, hR_chI, ↓reduceIte, not_true_eq_false, not_false_eq_true, eq_self, c10, Nat.zero_add, nI_add, litA, litB, litM, nI_mul, nI_leI, nI_ltI, nI_eq, litLe, litLe2, litLt, litLt2, litEq, litEq2, in_nI, lit_in, nI_clamp, lit_cl, if_pos, if_neg, WD w hd, c2, b3, b5, b2]
    rfl
theorem C147 {rb dr : Nat} {jd : Option Nat} {h : rz_H} (w : Wf rb dr jd h) {a : Nat} (hd : isD a) {F p t v s q : Nat} {g e : Nat → Nat} (O : tOk F p t v s q g e) (C : Dc h a F p t v s q g e) (d : Nat) : cW (d + 1) 147 [rz_r (some a)] h = some (rz_i (nI (gps F g e)), h) := by
  obtain ⟨o1, o2, o3, o4, o5, o6, o7⟩ := O
  obtain ⟨c1, c2, c3, c4, c5, c6, c7⟩ := C
  rw [E147]
  refine Eq.trans (lp_i0 (fun i c => rW d 147 (4, (0, 0), [some (rz_r (some a)), some (rz_i (nI c)), some (rz_i (nI i))], [], h)) (fun i c => if shw g e i = 16 then c + 1 else c) F 0 (fun i c hi => ?_)) ?_
  · obtain ⟨b3, b5⟩ := c7 i hi
    obtain ⟨b1, b2⟩ := o7 i hi
    rw [E147_4]
    unfold shw
    by_cases hc : e i < 99 <;> by_cases hg : g i = 16 <;> simp (disch := omega) only [bI_some, bV_some, bR_some, bL_some, ob_some, cd_t, cd_f, cd_d, okO_setI, okA_setI, okL_setI, aLen_setI, hR_setI, hI_setI, Bool.true_and, Bool.and_true, Bool.and_self, Option.isNone_some, Option.isSome_some, Option.isNone_none, Option.isSome_none, okO_chI, okA_chI, okL_chI, aLen_chI, hR_chI, ↓reduceIte, not_true_eq_false, not_false_eq_true, eq_self, c10, Nat.zero_add, nI_add, litA, litB, litM, nI_mul, nI_leI, nI_ltI, nI_eq, litLe, litLe2, litLt, litLt2, litEq, litEq2, in_nI, lit_in, nI_clamp, lit_cl, if_pos, if_neg, WD w hd, c1, b3, b5, hc, hg]
  · skip
    rw [E147_4]
    simp (disch := omega) only [bI_some, bV_some, bR_some, bL_some, ob_some, cd_t, cd_f, cd_d, okO_setI, okA_setI, okL_setI, aLen_setI, hR_setI, hI_setI, Bool.true_and, Bool.and_true, Bool.and_self, Option.isNone_some, Option.isSome_some, Option.isNone_none, Option.isSome_none, okO_chI, okA_chI, okL_chI, aLen_chI, hR_chI, ↓reduceIte, not_true_eq_false, not_false_eq_true, eq_self, c10, Nat.zero_add, nI_add, litA, litB, litM, nI_mul, nI_leI, nI_ltI, nI_eq, litLe, litLe2, litLt, litLt2, litEq, litEq2, in_nI, lit_in, nI_clamp, lit_cl, if_pos, if_neg, WD w hd, c1]
    rfl
theorem C145 {rb dr : Nat} {jd : Option Nat} {h : rz_H} (w : Wf rb dr jd h) {a : Nat} (hd : isD a) {F p t v s q : Nat} {g e : Nat → Nat} (O : tOk F p t v s q g e) (C : Dc h a F p t v s q g e) {i : Nat} (hi : i < F) (d : Nat) : cW (d + 1) 145 [rz_r (some a), rz_i (nI i)] h = some (rz_i (nI (e i)), h) := by
  obtain ⟨o1, o2, o3, o4, o5, o6, o7⟩ := O
  obtain ⟨c1, c2, c3, c4, c5, c6, c7⟩ := C
  obtain ⟨b3, b5⟩ := c7 i hi
  rw [E145]
  simp (disch := omega) only [bI_some, bV_some, bR_some, bL_some, ob_some, cd_t, cd_f, cd_d, okO_setI, okA_setI, okL_setI, aLen_setI, hR_setI, hI_setI, Bool.true_and, Bool.and_true, Bool.and_self, Option.isNone_some, Option.isSome_some, Option.isNone_none, Option.isSome_none, okO_chI, okA_chI, okL_chI, aLen_chI, hR_chI, ↓reduceIte, not_true_eq_false, not_false_eq_true, eq_self, c10, Nat.zero_add, nI_add, litA, litB, litM, nI_mul, nI_leI, nI_ltI, nI_eq, litLe, litLe2, litLt, litLt2, litEq, litEq2, in_nI, lit_in, nI_clamp, lit_cl, if_pos, if_neg, WD w hd, c1, b5]
def rnT (F t q : Nat) : Bool := decide (0 < F) && (decide (0 < t) && decide (q = 0))
theorem C143 {rb dr : Nat} {jd : Option Nat} {h : rz_H} (w : Wf rb dr jd h) {a : Nat} (hd : isD a) {F p t v s q : Nat} {g e : Nat → Nat} (O : tOk F p t v s q g e) (C : Dc h a F p t v s q g e) (d : Nat) : cW (d + 1) 143 [rz_r (some a)] h = some (rz_i (bI1 (rnT F t q)), h) := by
  obtain ⟨o1, o2, o3, o4, o5, o6, o7⟩ := O
  obtain ⟨c1, c2, c3, c4, c5, c6, c7⟩ := C
  rw [S143 w hd, c1, c3, c6]
  unfold rnT
  rcases Nat.eq_zero_or_pos F with hF | hF
  · subst hF
    rw [if_pos (Or.inl (by decide))]; rfl
  · have n1 := nI_nle hF (show F < 2 ^ 31 by omega)
    rw [decide_eq_true hF]
    rcases Nat.eq_zero_or_pos t with ht | ht
    · subst ht
      rw [if_pos (Or.inr (Or.inl (by decide)))]; rfl
    · have n2 := nI_nle ht (show t < 2 ^ 31 by omega)
      rw [decide_eq_true ht]
      rcases Nat.eq_zero_or_pos q with hq | hq
      · subst hq
        rw [if_neg (fun x => by
          rcases x with x | x | x
          · exact n1 x
          · exact n2 x
          · exact x rfl)]; rfl
      · rw [if_pos (Or.inr (Or.inr (nI_ne0 hq (by omega)))), decide_eq_false (by omega)]; rfl
theorem C142 {rb dr : Nat} {jd : Option Nat} {h : rz_H} (w : Wf rb dr jd h) {a : Nat} (hd : isD a) {F p t v s q : Nat} {g e : Nat → Nat} (O : tOk F p t v s q g e) (C : Dc h a F p t v s q g e) (d : Nat) : cW (d + 1) 142 [rz_r (some a)] h = some (rz_i (bI1 (decide (0 < F))), h) := by
  obtain ⟨o1, o2, o3, o4, o5, o6, o7⟩ := O
  obtain ⟨c1, c2, c3, c4, c5, c6, c7⟩ := C
  rw [S142 w hd, c1]
  rcases Nat.eq_zero_or_pos F with hF | hF
  · subst hF
    rw [if_pos (by decide)]; rfl
  · rw [if_neg (nI_nle hF (by omega)), decide_eq_true hF]; rfl
theorem M41 {rb dr : Nat} {jd : Option Nat} {h : rz_H} (w : Wf rb dr jd h) {k : Nat} (hk : k < 8) {F p t v s q : Nat} {g e : Nat → Nat} (O : tOk F p t v s q g e) (M : Dm h k F p t v s q g e) (d : Nat) : cW (d + 1) 41 [rz_r (some 109), rz_i (nI k)] h = some (rz_i (nI F), h) := by
  obtain ⟨m1, m2, m3, m4, m5, m6, m7⟩ := M
  rw [E41]
  simp (disch := omega) only [bI_some, bV_some, bR_some, bL_some, ob_some, cd_t, cd_f, cd_d, okO_setI, okA_setI, okL_setI, aLen_setI, hR_setI, hI_setI, Bool.true_and, Bool.and_true, Bool.and_self, Option.isNone_some, Option.isSome_some, Option.isNone_none, Option.isSome_none, okO_chI, okA_chI, okL_chI, aLen_chI, hR_chI, ↓reduceIte, not_true_eq_false, not_false_eq_true, eq_self, c10, Nat.zero_add, nI_add, litA, litB, litM, nI_mul, nI_leI, nI_ltI, nI_eq, litLe, litLe2, litLt, litLt2, litEq, litEq2, in_nI, lit_in, nI_clamp, lit_cl, if_pos, if_neg, WMd w, m1]
theorem M39 {rb dr : Nat} {jd : Option Nat} {h : rz_H} (w : Wf rb dr jd h) {k : Nat} (hk : k < 8) {F p t v s q : Nat} {g e : Nat → Nat} (O : tOk F p t v s q g e) (M : Dm h k F p t v s q g e) (d : Nat) : cW (d + 2) 39 [rz_r (some 109), rz_i (nI k)] h = some (rz_i (bI1 (decide (0 < F))), h) := by
  obtain ⟨o1, o2, o3, o4, o5, o6, o7⟩ := O
  obtain ⟨m1, m2, m3, m4, m5, m6, m7⟩ := M
  have c0 : (0 : Int32) ≤ nI k ∧ nI k ≤ 7 := ⟨nI_pos' (by omega), nI_le (b := 7) (by omega) (by omega)⟩
  rw [E39]
  rcases Nat.eq_zero_or_pos F with hF | hF
  · subst hF
    have z : nI 0 = (0 : Int32) := rfl
    simp only [bI_some, bV_some, bR_some, bL_some, ob_some, cd_t, cd_f, cd_d, okO_setI, okA_setI, okL_setI, aLen_setI, hR_setI, hI_setI, Bool.true_and, Bool.and_true, Bool.and_self, Option.isNone_some, Option.isSome_some, Option.isNone_none, Option.isSome_none, okO_chI, okA_chI, okL_chI, aLen_chI, hR_chI, ↓reduceIte, not_true_eq_false, not_false_eq_true, eq_self, c10, S33, if_pos c0]
    simp (disch := omega) only [bI_some, bV_some, bR_some, bL_some, ob_some, cd_t, cd_f, cd_d, okO_setI, okA_setI, okL_setI, aLen_setI, hR_setI, hI_setI, Bool.true_and, Bool.and_true, Bool.and_self, Option.isNone_some, Option.isSome_some, Option.isNone_none, Option.isSome_none, okO_chI, okA_chI, okL_chI, aLen_chI, hR_chI, ↓reduceIte, not_true_eq_false, not_false_eq_true, eq_self, c10, Nat.zero_add, nI_add, litA, litB, litM, nI_mul, nI_leI, nI_ltI, nI_eq, litLe, litLe2, litLt, litLt2, litEq, litEq2, in_nI, lit_in, nI_clamp, lit_cl, if_pos, if_neg, WMd w, m1, z, bI1, Int32.le_refl, Nat.lt_irrefl, decide_false, Bool.false_eq_true]
  · have n1 := nI_nle hF (show F < 2 ^ 31 by omega)
    simp only [bI_some, bV_some, bR_some, bL_some, ob_some, cd_t, cd_f, cd_d, okO_setI, okA_setI, okL_setI, aLen_setI, hR_setI, hI_setI, Bool.true_and, Bool.and_true, Bool.and_self, Option.isNone_some, Option.isSome_some, Option.isNone_none, Option.isSome_none, okO_chI, okA_chI, okL_chI, aLen_chI, hR_chI, ↓reduceIte, not_true_eq_false, not_false_eq_true, eq_self, c10, S33, if_pos c0]
    simp (disch := omega) only [bI_some, bV_some, bR_some, bL_some, ob_some, cd_t, cd_f, cd_d, okO_setI, okA_setI, okL_setI, aLen_setI, hR_setI, hI_setI, Bool.true_and, Bool.and_true, Bool.and_self, Option.isNone_some, Option.isSome_some, Option.isNone_none, Option.isSome_none, okO_chI, okA_chI, okL_chI, aLen_chI, hR_chI, ↓reduceIte, not_true_eq_false, not_false_eq_true, eq_self, c10, Nat.zero_add, nI_add, litA, litB, litM, nI_mul, nI_leI, nI_ltI, nI_eq, litLe, litLe2, litLt, litLt2, litEq, litEq2, in_nI, lit_in, nI_clamp, lit_cl, if_pos, if_neg, WMd w, m1, n1, bI1, hF, decide_true]
theorem M43 {rb dr : Nat} {jd : Option Nat} {h : rz_H} (w : Wf rb dr jd h) {k : Nat} (hk : k < 8) {F p t v s q : Nat} {g e : Nat → Nat} (O : tOk F p t v s q g e) (M : Dm h k F p t v s q g e) {i : Nat} (hi : i < F) (d : Nat) : cW (d + 1) 43 [rz_r (some 109), rz_i (nI k), rz_i (nI i)] h = some (rz_i (nI (shw g e i)), h) := by
  obtain ⟨o1, o2, o3, o4, o5, o6, o7⟩ := O
  obtain ⟨m1, m2, m3, m4, m5, m6, m7⟩ := M
  obtain ⟨b4, b6⟩ := m7 i hi
  obtain ⟨b1, b2⟩ := o7 i hi
  rw [E43]
  unfold shw
  by_cases hc : e i < 99
  · simp (disch := omega) only [bI_some, bV_some, bR_some, bL_some, ob_some, cd_t, cd_f, cd_d, okO_setI, okA_setI, okL_setI, aLen_setI, hR_setI, hI_setI, Bool.true_and, Bool.and_true, Bool.and_self, Option.isNone_some, Option.isSome_some, Option.isNone_none, Option.isSome_none, okO_chI, okA_chI, okL_chI, aLen_chI, hR_chI, ↓reduceIte, not_true_eq_false, not_false_eq_true, eq_self, c10, Nat.zero_add, nI_add, litA, litB, litM, nI_mul, nI_leI, nI_ltI, nI_eq, litLe, litLe2, litLt, litLt2, litEq, litEq2, in_nI, lit_in, nI_clamp, lit_cl, if_pos, if_neg, WMd w, b4, b6, b2, Int32.zero_add]
  · simp (disch := omega) only [bI_some, bV_some, bR_some, bL_some, ob_some, cd_t, cd_f, cd_d, okO_setI, okA_setI, okL_setI, aLen_setI, hR_setI, hI_setI, Bool.true_and, Bool.and_true, Bool.and_self, Option.isNone_some, Option.isSome_some, Option.isNone_none, Option.isSome_none, okO_chI, okA_chI, okL_chI, aLen_chI, hR_chI, ↓reduceIte, not_true_eq_false, not_false_eq_true, eq_self, c10, Nat.zero_add, nI_add, litA, litB, litM, nI_mul, nI_leI, nI_ltI, nI_eq, litLe, litLe2, litLt, litLt2, litEq, litEq2, in_nI, lit_in, nI_clamp, lit_cl, if_pos, if_neg, WMd w, b4, b6, b2, Int32.zero_add]
    rfl
theorem M44 {rb dr : Nat} {jd : Option Nat} {h : rz_H} (w : Wf rb dr jd h) {k : Nat} (hk : k < 8) {F p t v s q : Nat} {g e : Nat → Nat} (O : tOk F p t v s q g e) (M : Dm h k F p t v s q g e) (d : Nat) : cW (d + 2) 44 [rz_r (some 109), rz_i (nI k)] h = some (rz_i (nI (gps F g e)), h) := by
  have m41 := M41 w hk O M
  rw [E44]
  refine Eq.trans (lp_i0 (fun i c => rW (d + 1) 44 (4, (0, 0), [some (rz_r (some 109)), some (rz_i (nI k)), some (rz_i (nI c)), some (rz_i (nI i))], [], h)) (fun i c => if shw g e i = 16 then c + 1 else c) F 0 (fun i c hi => ?_)) ?_
  · have m43 := M43 w hk O M hi
    obtain ⟨o1, o2, o3, o4, o5, o6, o7⟩ := O
    obtain ⟨b1, b2⟩ := o7 i hi
    have hs : shw g e i ≤ 16 := by unfold shw; split <;> omega
    rw [E44_4]
    by_cases hg : shw g e i = 16 <;> simp (disch := omega) only [bI_some, bV_some, bR_some, bL_some, ob_some, cd_t, cd_f, cd_d, okO_setI, okA_setI, okL_setI, aLen_setI, hR_setI, hI_setI, Bool.true_and, Bool.and_true, Bool.and_self, Option.isNone_some, Option.isSome_some, Option.isNone_none, Option.isSome_none, okO_chI, okA_chI, okL_chI, aLen_chI, hR_chI, ↓reduceIte, not_true_eq_false, not_false_eq_true, eq_self, c10, Nat.zero_add, nI_add, litA, litB, litM, nI_mul, nI_leI, nI_ltI, nI_eq, litLe, litLe2, litLt, litLt2, litEq, litEq2, in_nI, lit_in, nI_clamp, lit_cl, if_pos, if_neg, WMd w, m41, m43, hg]
  · skip
    rw [E44_4]
    have hF := O.1
    simp (disch := omega) only [bI_some, bV_some, bR_some, bL_some, ob_some, cd_t, cd_f, cd_d, okO_setI, okA_setI, okL_setI, aLen_setI, hR_setI, hI_setI, Bool.true_and, Bool.and_true, Bool.and_self, Option.isNone_some, Option.isSome_some, Option.isNone_none, Option.isSome_none, okO_chI, okA_chI, okL_chI, aLen_chI, hR_chI, ↓reduceIte, not_true_eq_false, not_false_eq_true, eq_self, c10, Nat.zero_add, nI_add, litA, litB, litM, nI_mul, nI_leI, nI_ltI, nI_eq, litLe, litLe2, litLt, litLt2, litEq, litEq2, in_nI, lit_in, nI_clamp, lit_cl, if_pos, if_neg, WMd w, m41]
    rfl
theorem M45 {rb dr : Nat} {jd : Option Nat} {h : rz_H} (w : Wf rb dr jd h) {k : Nat} (hk : k < 8) {F p t v s q : Nat} {g e : Nat → Nat} (O : tOk F p t v s q g e) (M : Dm h k F p t v s q g e) (d : Nat) : cW (d + 3) 45 [rz_r (some 109), rz_i (nI k)] h = some (rz_i (bI1 (rnT F t q)), h) := by
  have m39 := M39 w hk O M
  obtain ⟨o1, o2, o3, o4, o5, o6, o7⟩ := O
  obtain ⟨m1, m2, m3, m4, m5, m6, m7⟩ := M
  rw [E45]
  unfold rnT
  rcases Nat.eq_zero_or_pos F with hF | hF
  · rw [decide_eq_false (by omega)] at m39 ⊢
    simp (disch := omega) only [bI_some, bV_some, bR_some, bL_some, ob_some, cd_t, cd_f, cd_d, okO_setI, okA_setI, okL_setI, aLen_setI, hR_setI, hI_setI, Bool.true_and, Bool.and_true, Bool.and_self, Option.isNone_some, Option.isSome_some, Option.isNone_none, Option.isSome_none, okO_chI, okA_chI, okL_chI, aLen_chI, hR_chI, ↓reduceIte, not_true_eq_false, not_false_eq_true, eq_self, c10, Nat.zero_add, nI_add, litA, litB, litM, nI_mul, nI_leI, nI_ltI, nI_eq, litLe, litLe2, litLt, litLt2, litEq, litEq2, in_nI, lit_in, nI_clamp, lit_cl, if_pos, if_neg, WMd w, m39, bI1, Bool.false_eq_true, Bool.false_and]
  · rw [decide_eq_true hF] at m39 ⊢
    rcases Nat.eq_zero_or_pos t with ht | ht
    · subst ht
      have z : nI 0 = (0 : Int32) := rfl
      simp (disch := omega) only [bI_some, bV_some, bR_some, bL_some, ob_some, cd_t, cd_f, cd_d, okO_setI, okA_setI, okL_setI, aLen_setI, hR_setI, hI_setI, Bool.true_and, Bool.and_true, Bool.and_self, Option.isNone_some, Option.isSome_some, Option.isNone_none, Option.isSome_none, okO_chI, okA_chI, okL_chI, aLen_chI, hR_chI, ↓reduceIte, not_true_eq_false, not_false_eq_true, eq_self, c10, Nat.zero_add, nI_add, litA, litB, litM, nI_mul, nI_leI, nI_ltI, nI_eq, litLe, litLe2, litLt, litLt2, litEq, litEq2, in_nI, lit_in, nI_clamp, lit_cl, if_pos, if_neg, WMd w, m39, bI1, m3, z, Nat.lt_irrefl, decide_false, Bool.false_and, Bool.and_false, Bool.false_eq_true, Int32.le_refl]
    · have n2 := nI_nle ht (show t < 2 ^ 31 by omega)
      rw [decide_eq_true ht]
      rcases Nat.eq_zero_or_pos q with hq | hq
      · subst hq
        have z : nI 0 = (0 : Int32) := rfl
        simp (disch := omega) only [bI_some, bV_some, bR_some, bL_some, ob_some, cd_t, cd_f, cd_d, okO_setI, okA_setI, okL_setI, aLen_setI, hR_setI, hI_setI, Bool.true_and, Bool.and_true, Bool.and_self, Option.isNone_some, Option.isSome_some, Option.isNone_none, Option.isSome_none, okO_chI, okA_chI, okL_chI, aLen_chI, hR_chI, ↓reduceIte, not_true_eq_false, not_false_eq_true, eq_self, c10, Nat.zero_add, nI_add, litA, litB, litM, nI_mul, nI_leI, nI_ltI, nI_eq, litLe, litLe2, litLt, litLt2, litEq, litEq2, in_nI, lit_in, nI_clamp, lit_cl, if_pos, if_neg, WMd w, m39, bI1, m3, m6, n2, z, decide_true, Bool.true_and]
      · have n3 := nI_ne0 hq (show q < 2 ^ 31 by omega)
        rw [decide_eq_false (show ¬ q = 0 by omega)]
        simp (disch := omega) only [bI_some, bV_some, bR_some, bL_some, ob_some, cd_t, cd_f, cd_d, okO_setI, okA_setI, okL_setI, aLen_setI, hR_setI, hI_setI, Bool.true_and, Bool.and_true, Bool.and_self, Option.isNone_some, Option.isSome_some, Option.isNone_none, Option.isSome_none, okO_chI, okA_chI, okL_chI, aLen_chI, hR_chI, ↓reduceIte, not_true_eq_false, not_false_eq_true, eq_self, c10, Nat.zero_add, nI_add, litA, litB, litM, nI_mul, nI_leI, nI_ltI, nI_eq, litLe, litLe2, litLt, litLt2, litEq, litEq2, in_nI, lit_in, nI_clamp, lit_cl, if_pos, if_neg, WMd w, m39, bI1, m3, m6, n2, n3, Bool.and_false, Bool.false_eq_true]
/-! lands -/
abbrev TU : Type := Nat × Nat × Nat × Nat × Nat × Nat × (Nat → Nat) × (Nat → Nat)
def tO (T : TU) : Prop := tOk T.1 T.2.1 T.2.2.1 T.2.2.2.1 T.2.2.2.2.1 T.2.2.2.2.2.1 T.2.2.2.2.2.2.1 T.2.2.2.2.2.2.2
def tC (h : rz_H) (a : Nat) (T : TU) : Prop := Dc h a T.1 T.2.1 T.2.2.1 T.2.2.2.1 T.2.2.2.2.1 T.2.2.2.2.2.1 T.2.2.2.2.2.2.1 T.2.2.2.2.2.2.2
def tM (h : rz_H) (k : Nat) (T : TU) : Prop := Dm h k T.1 T.2.1 T.2.2.1 T.2.2.2.1 T.2.2.2.2.1 T.2.2.2.2.2.1 T.2.2.2.2.2.2.1 T.2.2.2.2.2.2.2
def LO (D : Nat → TU) (tk x : Nat) : Prop := (∀ k, k < 8 → tO (D k)) ∧ tk ≤ 9999 ∧ x ≤ 65535
def LC (h : rz_H) (A : Nat) (D : Nat → TU) (tk x : Nat) : Prop := (∀ k, k < 8 → tC h (A + 2 + 3 * k) (D k)) ∧ hI h A 1 = nI tk ∧ hI h A 2 = nI x
def LM (h : rz_H) (D : Nat → TU) (tk x : Nat) : Prop := (∀ k, k < 8 → tM h k (D k)) ∧ hI h 110 304 = nI tk ∧ hI h 110 305 = nI x
theorem mkL {h : rz_H} {A : Nat} (hA : isL A) (r1 : LaOk h A) (r2 : LaRel h A 110) : ∃ D tk x, LO D tk x ∧ LC h A D tk x ∧ LM h D tk x := by
  have ch := Classical.axiomOfChoice (r := fun k (T : TU) => k < 8 → tO T ∧ tC h (A + 2 + 3 * k) T ∧ tM h k T) fun k => by
    by_cases hk : k < 8
    · obtain ⟨F, p, t, v, s, q, g, e, D⟩ := mkDv hA r1 r2 hk
      obtain ⟨d1, d2, d3, d4, d5, d6, d7, d8, d9, d10, d11, d12, d13, d14, d15, d16, d17, d18, d19, d20, d21⟩ := D
      exact ⟨(F, p, t, v, s, q, g, e), fun _ => ⟨⟨d3, d4, d5, d6, d7, d8, fun i hi => ⟨(d21 i hi).1, (d21 i hi).2.1⟩⟩, ⟨d9, d10, d11, d12, d13, d14, fun i hi => ⟨(d21 i hi).2.2.1, (d21 i hi).2.2.2.2.1⟩⟩, ⟨d15, d16, d17, d18, d19, d20, fun i hi => ⟨(d21 i hi).2.2.2.1, (d21 i hi).2.2.2.2.2⟩⟩⟩⟩
    · exact ⟨(0, 0, 0, 0, 0, 0, fun _ => 0, fun _ => 0), fun q => absurd q hk⟩
  obtain ⟨D, hD⟩ := ch
  obtain ⟨tk, t1, t2⟩ := r1.2.1
  obtain ⟨x, x1, x2⟩ := r1.2.2
  exact ⟨D, tk, x, ⟨fun k hk => (hD k hk).1, t1, x1⟩, ⟨fun k hk => (hD k hk).2.1, t2, x2⟩, ⟨fun k hk => (hD k hk).2.2, r2.2.1.symm.trans t2, r2.2.2.symm.trans x2⟩⟩
theorem unL {h : rz_H} {A : Nat} {D : Nat → TU} {tk x : Nat} (O : LO D tk x) (C : LC h A D tk x) (M : LM h D tk x) : LaOk h A ∧ LaRel h A 110 := by
  refine ⟨⟨fun k hk => ?_, ⟨tk, O.2.1, C.2.1⟩, ⟨x, O.2.2, C.2.2⟩⟩, ⟨fun k hk => ?_, C.2.1.trans M.2.1.symm, C.2.2.trans M.2.2.symm⟩⟩
  · have O := O.1 k hk
    have C := C.1 k hk
    generalize D k = T at O C
    obtain ⟨F, p, t, v, s, q, g, e⟩ := T
    obtain ⟨o1, o2, o3, o4, o5, o6, o7⟩ := O
    obtain ⟨c1, c2, c3, c4, c5, c6, c7⟩ := C
    exact ⟨F, p, t, v, s, q, c1, c2, c3, c4, c5, c6, o1, o2, o3, o4, o5, o6, fun i hi => ⟨g i, e i, (c7 i hi).1, (o7 i hi).1, (c7 i hi).2, (o7 i hi).2⟩⟩
  · have O := O.1 k hk
    have C := C.1 k hk
    have M := M.1 k hk
    generalize D k = T at O C M
    obtain ⟨F, p, t, v, s, q, g, e⟩ := T
    obtain ⟨o1, o2, o3, o4, o5, o6, o7⟩ := O
    obtain ⟨c1, c2, c3, c4, c5, c6, c7⟩ := C
    obtain ⟨m1, m2, m3, m4, m5, m6, m7⟩ := M
    refine ⟨c1.trans m1.symm, c2.trans m2.symm, c3.trans m3.symm, c4.trans m4.symm, c5.trans m5.symm, c6.trans m6.symm, fun i hi hl => ?_⟩
    have c1 : hI h (A + 2 + 3 * k) 2 = nI F := c1
    rw [c1] at hl
    have o1 : F ≤ 16 := o1
    have hiF : i < F := (nI_ltI (by omega) (by omega)).mp hl
    exact ⟨(c7 i hiF).1.trans (m7 i hiF).1.symm, (c7 i hiF).2.trans (m7 i hiF).2.symm⟩
theorem Dc.to {h h2 : rz_H} {a F p t v s q : Nat} {g e : Nat → Nat} (C : Dc h a F p t v s q g e) (E : ∀ b, b = a ∨ b = a + 1 ∨ b = a + 2 → ∀ i, hI h2 b i = hI h b i) : Dc h2 a F p t v s q g e := by
  unfold Dc
  simp only [E a (Or.inl rfl), E (a + 1) (Or.inr (Or.inl rfl)), E (a + 2) (Or.inr (Or.inr rfl))]
  exact C
theorem Dm.to {h h2 : rz_H} {k F p t v s q : Nat} {g e : Nat → Nat} (M : Dm h k F p t v s q g e) (E : ∀ i, hI h2 110 i = hI h 110 i) : Dm h2 k F p t v s q g e := by
  unfold Dm
  simp only [E]
  exact M
theorem LC.to {h h2 : rz_H} {A : Nat} {D : Nat → TU} {tk x : Nat} (C : LC h A D tk x) (E : ∀ b, A ≤ b → b < A + 26 → ∀ i, hI h2 b i = hI h b i) : LC h2 A D tk x :=
  ⟨fun k hk => Dc.to (C.1 k hk) (fun b hb i => E b (by omega) (by omega) i), (E A (by omega) (by omega) 1).trans C.2.1, (E A (by omega) (by omega) 2).trans C.2.2⟩
theorem LM.to {h h2 : rz_H} {D : Nat → TU} {tk x : Nat} (M : LM h D tk x) (E : ∀ i, hI h2 110 i = hI h 110 i) : LM h2 D tk x :=
  ⟨fun k hk => Dm.to (M.1 k hk) E, (E 304).trans M.2.1, (E 305).trans M.2.2⟩
theorem LC.cp {h : rz_H} {A B : Nat} {D : Nat → TU} {tk x : Nat} (hs : A + 26 ≤ B ∨ B + 26 ≤ A) (O : LO D tk x) (C : LC h B D tk x) {h2 : rz_H} (E : ∀ c, A ≤ c → c < A + 26 → ∀ i, hI h2 c i = if c = A ∧ (i = 1 ∨ i = 2) then hI h B i else lcp h A B 8 c i) : LC h2 A D tk x := by
  refine ⟨fun k hk => ?_, ?_, ?_⟩
  · have O := O.1 k hk
    have C := C.1 k hk
    generalize D k = T at O C
    obtain ⟨F, p, t, v, s, q, g, e⟩ := T
    obtain ⟨o1, o2, o3, o4, o5, o6, o7⟩ := O
    obtain ⟨c1, c2, c3, c4, c5, c6, c7⟩ := C
    have o1 : F ≤ 16 := o1
    have c1 : hI h (B + 2 + 3 * k) 2 = nI F := c1
    have ef : ∀ i, 2 ≤ i → i ≤ 7 → hI h2 (A + 2 + 3 * k) i = hI h (B + 2 + 3 * k) i := by
      intro i h1 h7
      rw [E _ (by omega) (by omega), if_neg (by omega)]
      unfold lcp
      rw [if_pos (by omega), if_pos (by omega), if_pos ⟨h1, h7⟩, show B + 2 + (A + 2 + 3 * k - (A + 2)) = B + 2 + 3 * k by omega]
    have eg : ∀ r, r = 1 ∨ r = 2 → ∀ i, i < F → hI h2 (A + 2 + 3 * k + r) i = hI h (B + 2 + 3 * k + r) i := by
      intro r hr i hi
      rw [E _ (by omega) (by omega), if_neg (by omega)]
      unfold lcp
      rw [if_pos (by omega), if_neg (by omega), show (A + 2 + 3 * k + r - (A + 2)) / 3 = k by omega, c1, nI_clamp (by omega), if_pos hi, show B + 2 + (A + 2 + 3 * k + r - (A + 2)) = B + 2 + 3 * k + r by omega]
    exact ⟨(ef 2 (by omega) (by omega)).trans c1, (ef 3 (by omega) (by omega)).trans c2, (ef 4 (by omega) (by omega)).trans c3, (ef 5 (by omega) (by omega)).trans c4, (ef 6 (by omega) (by omega)).trans c5, (ef 7 (by omega) (by omega)).trans c6, fun i hi => ⟨(eg 1 (Or.inl rfl) i hi).trans (c7 i hi).1, (eg 2 (Or.inr rfl) i hi).trans (c7 i hi).2⟩⟩
  · rw [E A (by omega) (by omega), if_pos ⟨rfl, Or.inl rfl⟩]; exact C.2.1
  · rw [E A (by omega) (by omega), if_pos ⟨rfl, Or.inr rfl⟩]; exact C.2.2
theorem Wf.e {rb dr : Nat} {jd : Option Nat} {h k : rz_H} (w : Wf rb dr jd h) (e : k.2 = h.2) : Wf rb dr jd k := by
  obtain ⟨k1, k2⟩ := k
  obtain ⟨h1, h2⟩ := h
  have e : k2 = h2 := e
  subst e
  exact w
