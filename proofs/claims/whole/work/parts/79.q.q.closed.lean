/-! the law's text: where the model's closing ends -/
theorem K59x {rb dr : Nat} {jd : Option Nat} {h : rz_H} (w : Wf rb dr jd h) {k : Int32} (k56 : ∀ d, cW (d + 1) 56 [rz_r (some 109)] h = some (rz_i k, h)) (hk : (k < 4 ∧ ¬ k = 2 ∧ ¬ k = 3) ∨ (¬ k < 4 ∧ ¬ k ≤ 6 ∧ ¬ k = 2 ∧ ¬ k = 3)) (x : Int32) (d : Nat) : rW (d + 1) 59 (0, (0, 0), [some (rz_r (some 109)), some (rz_i x)], [], h) = some (rz_i 0, h) := by
  rw [E59_0]
  by_cases hx : x = 0
  · subst hx
    rcases hk with ⟨a, b, c⟩ | ⟨a, a2, b, c⟩
    · simp only [bI_some, bV_some, bR_some, bL_some, ob_some, cd_t, cd_f, cd_d, okO_setI, okA_setI, okL_setI, aLen_setI, hR_setI, hI_setI, Bool.true_and, Bool.and_true, Bool.and_self, Option.isNone_some, Option.isSome_some, Option.isNone_none, Option.isSome_none, okO_chI, okA_chI, okL_chI, aLen_chI, hR_chI, ↓reduceIte, not_true_eq_false, not_false_eq_true, eq_self, c10, WMd w, k56, if_pos a]
    · simp only [bI_some, bV_some, bR_some, bL_some, ob_some, cd_t, cd_f, cd_d, okO_setI, okA_setI, okL_setI, aLen_setI, hR_setI, hI_setI, Bool.true_and, Bool.and_true, Bool.and_self, Option.isNone_some, Option.isSome_some, Option.isNone_none, Option.isSome_none, okO_chI, okA_chI, okL_chI, aLen_chI, hR_chI, ↓reduceIte, not_true_eq_false, not_false_eq_true, eq_self, c10, WMd w, k56, if_neg a, if_neg a2]
  · rcases hk with ⟨a, b, c⟩ | ⟨a, a2, b, c⟩
    · simp only [bI_some, bV_some, bR_some, bL_some, ob_some, cd_t, cd_f, cd_d, okO_setI, okA_setI, okL_setI, aLen_setI, hR_setI, hI_setI, Bool.true_and, Bool.and_true, Bool.and_self, Option.isNone_some, Option.isSome_some, Option.isNone_none, Option.isSome_none, okO_chI, okA_chI, okL_chI, aLen_chI, hR_chI, ↓reduceIte, not_true_eq_false, not_false_eq_true, eq_self, c10, WMd w, k56, if_pos a, if_neg hx, if_neg b, c]
    · simp only [bI_some, bV_some, bR_some, bL_some, ob_some, cd_t, cd_f, cd_d, okO_setI, okA_setI, okL_setI, aLen_setI, hR_setI, hI_setI, Bool.true_and, Bool.and_true, Bool.and_self, Option.isNone_some, Option.isSome_some, Option.isNone_none, Option.isSome_none, okO_chI, okA_chI, okL_chI, aLen_chI, hR_chI, ↓reduceIte, not_true_eq_false, not_false_eq_true, eq_self, c10, WMd w, k56, if_neg a, if_neg a2, if_neg hx, if_neg b, c]
theorem K59n {rb dr : Nat} {jd : Option Nat} {h : rz_H} (w : Wf rb dr jd h) (e11 : hI h 109 11 = nI 0) (x : Int32) (d : Nat) : rW (d + 1) 59 (0, (0, 0), [some (rz_r (some 109)), some (rz_i x)], [], h) = some (rz_i 0, h) := K59x w (K56n w e11) (Or.inl (by decide)) x d
theorem K59t {rb dr : Nat} {jd : Option Nat} {h : rz_H} (w : Wf rb dr jd h) {v : Nat} {r : List Nat} (hl : r.length < 250) (e11 : hI h 109 11 = nI (r.length + 1)) (s : WS h (v :: r)) (hv : 7 ≤ v / 1048576) (x : Int32) (d : Nat) : rW (d + 1) 59 (0, (0, 0), [some (rz_r (some 109)), some (rz_i x)], [], h) = some (rz_i 0, h) := by
  have v16 : v / 1048576 < 16 := by
    have := s.2.1
    omega
  refine K59x w (K56 w hl e11 s) (Or.inr ⟨?_, ?_, ?_, ?_⟩) x d
  · exact fun z => by have := (nI_ltI (a := v / 1048576) (b := 4) (by omega) (by omega)).mp z; omega
  · exact fun z => by have := (nI_leI (a := v / 1048576) (b := 6) (by omega) (by omega)).mp z; omega
  · exact fun z => by have := (nI_eq (a := v / 1048576) (b := 2) (by omega) (by omega)).mp z; omega
  · exact fun z => by have := (nI_eq (a := v / 1048576) (b := 3) (by omega) (by omega)).mp z; omega
theorem K59z {rb dr : Nat} {jd : Option Nat} {h : rz_H} (w : Wf rb dr jd h) {sg : Nat} {r : List Nat} (hs : addT sg = true) (hl : r.length < 250) (e11 : hI h 109 11 = nI (r.length + 1)) (s : WS h (1048576 * sgN sg :: r)) (d : Nat) : rW (d + 1) 59 (0, (0, 0), [some (rz_r (some 109)), some (rz_i 0)], [], h) = some (rz_i 0, h) := by
  have k56 := fun d => K56 w hl e11 s d
  have z : sg = 43 ∨ sg = 45 := of_decide_eq_true hs
  rw [E59_0]
  rcases z with rfl | rfl
  · have k56 : ∀ d, cW (d + 1) 56 [rz_r (some 109)] h = some (rz_i 2, h) := k56
    simp only [bI_some, bV_some, bR_some, bL_some, ob_some, cd_t, cd_f, cd_d, okO_setI, okA_setI, okL_setI, aLen_setI, hR_setI, hI_setI, Bool.true_and, Bool.and_true, Bool.and_self, Option.isNone_some, Option.isSome_some, Option.isNone_none, Option.isSome_none, okO_chI, okA_chI, okL_chI, aLen_chI, hR_chI, ↓reduceIte, not_true_eq_false, not_false_eq_true, eq_self, c10, WMd w, k56, lts9]
  · have k56 : ∀ d, cW (d + 1) 56 [rz_r (some 109)] h = some (rz_i 3, h) := k56
    simp only [bI_some, bV_some, bR_some, bL_some, ob_some, cd_t, cd_f, cd_d, okO_setI, okA_setI, okL_setI, aLen_setI, hR_setI, hI_setI, Bool.true_and, Bool.and_true, Bool.and_self, Option.isNone_some, Option.isSome_some, Option.isNone_none, Option.isSome_none, okO_chI, okA_chI, okL_chI, aLen_chI, hR_chI, ↓reduceIte, not_true_eq_false, not_false_eq_true, eq_self, c10, WMd w, k56, lts9]
