/-! leaf methods -/
theorem xor_nn (x y : Int32) (hy : 0 ≤ y.toInt) : (0 ≤ x ^^^ y) ↔ 0 ≤ x.toInt := by
  rw [Int32.le_iff_toInt_le, Int32.toInt_zero]
  have e1 : ∀ u : Int32, (0 ≤ u.toInt) ↔ u.toBitVec.msb = false := by
    intro u
    rw [BitVec.msb_eq_toInt]
    show 0 ≤ u.toBitVec.toInt ↔ _
    simp
  rw [e1, e1, Int32.toBitVec_xor, BitVec.msb_xor, (e1 y).mp hy]
  simp
theorem toInt_ofI {z : Int} (h1 : -2147483648 ≤ z) (h2 : z < 2147483648) : (Int32.ofInt z).toInt = z := Int32.toInt_ofInt_of_le (by omega) (by omega)
/-- floorMod as it stands in the class -/
theorem fm_eq {z : Int} {F : Nat} (h1 : -2147483648 ≤ z) (h2 : z < 2147483648) (h0 : 0 < F) (hF : F < 1000) :
    (if 0 ≤ Int32.ofInt z ^^^ nI F then Int32.ofInt z - Int32.ofInt z / nI F * nI F else if Int32.ofInt z - Int32.ofInt z / nI F * nI F = 0 then Int32.ofInt z - Int32.ofInt z / nI F * nI F else Int32.ofInt z - Int32.ofInt z / nI F * nI F + nI F) = nI (z % (F : Int)).toNat := by
  have hFt : (nI F).toInt = (F : Int) := nI_toInt (by omega)
  have hm : 0 ≤ z % (F : Int) := Int.emod_nonneg _ (by omega)
  have hm2 : z % (F : Int) < F := Int.emod_lt_of_pos _ (by omega)
  have hnt : (nI (z % (F : Int)).toNat).toInt = z % (F : Int) := by rw [nI_toInt (by omega)]; omega
  rw [irem_eq_mod]
  have hr : (Int32.ofInt z % nI F).toInt = z.tmod F := by rw [Int32.toInt_mod, toInt_ofI h1 h2, hFt]
  by_cases hz : 0 ≤ z
  · rw [if_pos ((xor_nn _ _ (by omega)).mpr (by rw [toInt_ofI h1 h2]; exact hz))]
    apply Int32.toInt_inj.mp
    rw [hr, hnt, Int.tmod_eq_emod_of_nonneg hz]
  · rw [if_neg (fun q => hz (by have := (xor_nn _ _ (by omega)).mp q; rw [toInt_ofI h1 h2] at this; exact this))]
    have ht : z.tmod F = if z % (F : Int) = 0 then 0 else z % (F : Int) - F := by
      rw [Int.tmod_eq_emod]
      by_cases hd : (F : Int) ∣ z
      · rw [if_pos (Or.inr hd), Int.emod_eq_zero_of_dvd hd]
        simp
      · rw [if_neg (by rintro (q | q); exact hz q; exact hd q), if_neg (fun q => hd (Int.dvd_of_emod_eq_zero q))]
        simp
    by_cases e0 : z % (F : Int) = 0
    · rw [if_pos e0] at ht
      have : Int32.ofInt z % nI F = 0 := Int32.toInt_inj.mp (by rw [hr, ht]; rfl)
      rw [if_pos this, this, e0]; rfl
    · rw [if_neg e0] at ht
      have hne : ¬ Int32.ofInt z % nI F = 0 := fun q => by
        rw [q] at hr
        rw [ht] at hr
        have : (0 : Int32).toInt = 0 := rfl
        omega
      rw [if_neg hne]
      apply Int32.toInt_inj.mp
      rw [Int32.toInt_add, hr, ht, hFt, hnt, Int.bmod_eq_of_le (by omega) (by omega)]
      omega
theorem S276 (d : Nat) (h : rz_H) {z : Int} {F : Nat} (h1 : -2147483648 ≤ z) (h2 : z < 2147483648) (h0 : 0 < F) (hF : F < 1000) : cW (d + 1) 276 [rz_i (Int32.ofInt z), rz_i (nI F)] h = some (rz_i (nI (z % (F : Int)).toNat), h) := by
  rw [E276, ← fm_eq h1 h2 h0 hF]
  simp only [bI_some, bV_some, bR_some, bL_some, ob_some, cd_t, cd_f, cd_d, okO_setI, okA_setI, okL_setI, aLen_setI, hR_setI, hI_setI, Bool.true_and, Bool.and_true, Bool.and_self, Option.isNone_some, Option.isSome_some, Option.isNone_none, Option.isSome_none]
  have hne : ¬ nI F = 0 := nI_ne0 h0 (by omega)
  rw [if_pos hne]
  split
  · rfl
  · split <;> rfl
theorem S277 (d : Nat) (h : rz_H) (x y : Int32) : cW (d + 1) 277 [rz_i x, rz_i y] h = some (rz_i (if x < y then y else x), h) := by
  rw [E277]
  simp only [bI_some, bV_some, bR_some, bL_some, ob_some, cd_t, cd_f, cd_d, okO_setI, okA_setI, okL_setI, aLen_setI, hR_setI, hI_setI, Bool.true_and, Bool.and_true, Bool.and_self, Option.isNone_some, Option.isSome_some, Option.isNone_none, Option.isSome_none]
  by_cases hxy : x < y
  · simp [hxy, Int32.not_le.mpr hxy]
  · simp [hxy, Int32.not_lt.mp hxy]
theorem S278 (d : Nat) (h : rz_H) (x y : Int32) : cW (d + 1) 278 [rz_i x, rz_i y] h = some (rz_i (if y < x then y else x), h) := by
  rw [E278]
  simp only [bI_some, bV_some, bR_some, bL_some, ob_some, cd_t, cd_f, cd_d, okO_setI, okA_setI, okL_setI, aLen_setI, hR_setI, hI_setI, Bool.true_and, Bool.and_true, Bool.and_self, Option.isNone_some, Option.isSome_some, Option.isNone_none, Option.isSome_none]
  by_cases hxy : y < x
  · simp [hxy, Int32.not_le.mpr hxy]
  · simp [hxy, Int32.not_lt.mp hxy]
theorem S136 {rb dr : Nat} {jd : Option Nat} {h : rz_H} (w : Wf rb dr jd h) {a : Nat} (hd : isD a) (d : Nat) : cW (d + 1) 136 [rz_r (some a)] h = some (rz_i (hI h a 2), h) := by
  rw [E136]; simp only [bI_some, bV_some, bR_some, bL_some, ob_some, cd_t, cd_f, cd_d, okO_setI, okA_setI, okL_setI, aLen_setI, hR_setI, hI_setI, Bool.true_and, Bool.and_true, Bool.and_self, Option.isNone_some, Option.isSome_some, Option.isNone_none, Option.isSome_none, WD w hd]
theorem S137 {rb dr : Nat} {jd : Option Nat} {h : rz_H} (w : Wf rb dr jd h) {a : Nat} (hd : isD a) (d : Nat) : cW (d + 1) 137 [rz_r (some a)] h = some (rz_i (hI h a 3), h) := by
  rw [E137]; simp only [bI_some, bV_some, bR_some, bL_some, ob_some, cd_t, cd_f, cd_d, okO_setI, okA_setI, okL_setI, aLen_setI, hR_setI, hI_setI, Bool.true_and, Bool.and_true, Bool.and_self, Option.isNone_some, Option.isSome_some, Option.isNone_none, Option.isSome_none, WD w hd]
theorem S138 {rb dr : Nat} {jd : Option Nat} {h : rz_H} (w : Wf rb dr jd h) {a : Nat} (hd : isD a) (d : Nat) : cW (d + 1) 138 [rz_r (some a)] h = some (rz_i (hI h a 4), h) := by
  rw [E138]; simp only [bI_some, bV_some, bR_some, bL_some, ob_some, cd_t, cd_f, cd_d, okO_setI, okA_setI, okL_setI, aLen_setI, hR_setI, hI_setI, Bool.true_and, Bool.and_true, Bool.and_self, Option.isNone_some, Option.isSome_some, Option.isNone_none, Option.isSome_none, WD w hd]
theorem S139 {rb dr : Nat} {jd : Option Nat} {h : rz_H} (w : Wf rb dr jd h) {a : Nat} (hd : isD a) (d : Nat) : cW (d + 1) 139 [rz_r (some a)] h = some (rz_i (hI h a 5), h) := by
  rw [E139]; simp only [bI_some, bV_some, bR_some, bL_some, ob_some, cd_t, cd_f, cd_d, okO_setI, okA_setI, okL_setI, aLen_setI, hR_setI, hI_setI, Bool.true_and, Bool.and_true, Bool.and_self, Option.isNone_some, Option.isSome_some, Option.isNone_none, Option.isSome_none, WD w hd]
theorem S140 {rb dr : Nat} {jd : Option Nat} {h : rz_H} (w : Wf rb dr jd h) {a : Nat} (hd : isD a) (d : Nat) : cW (d + 1) 140 [rz_r (some a)] h = some (rz_i (hI h a 6), h) := by
  rw [E140]; simp only [bI_some, bV_some, bR_some, bL_some, ob_some, cd_t, cd_f, cd_d, okO_setI, okA_setI, okL_setI, aLen_setI, hR_setI, hI_setI, Bool.true_and, Bool.and_true, Bool.and_self, Option.isNone_some, Option.isSome_some, Option.isNone_none, Option.isSome_none, WD w hd]
theorem S141 {rb dr : Nat} {jd : Option Nat} {h : rz_H} (w : Wf rb dr jd h) {a : Nat} (hd : isD a) (d : Nat) (h01 : hI h a 7 = 0 ∨ hI h a 7 = 1) : cW (d + 1) 141 [rz_r (some a)] h = some (rz_i (hI h a 7), h) := by
  rw [E141]; simp only [bI_some, bV_some, bR_some, bL_some, ob_some, cd_t, cd_f, cd_d, okO_setI, okA_setI, okL_setI, aLen_setI, hR_setI, hI_setI, Bool.true_and, Bool.and_true, Bool.and_self, Option.isNone_some, Option.isSome_some, Option.isNone_none, Option.isSome_none, WD w hd]
  rcases h01 with e | e <;> rw [e] <;> rfl
theorem S142 {rb dr : Nat} {jd : Option Nat} {h : rz_H} (w : Wf rb dr jd h) {a : Nat} (hd : isD a) (d : Nat) : cW (d + 1) 142 [rz_r (some a)] h = some (rz_i (if hI h a 2 ≤ 0 then 0 else 1), h) := by
  rw [E142]; simp only [bI_some, bV_some, bR_some, bL_some, ob_some, cd_t, cd_f, cd_d, okO_setI, okA_setI, okL_setI, aLen_setI, hR_setI, hI_setI, Bool.true_and, Bool.and_true, Bool.and_self, Option.isNone_some, Option.isSome_some, Option.isNone_none, Option.isSome_none, WD w hd]
  split <;> rfl
theorem S143 {rb dr : Nat} {jd : Option Nat} {h : rz_H} (w : Wf rb dr jd h) {a : Nat} (hd : isD a) (d : Nat) : cW (d + 1) 143 [rz_r (some a)] h = some (rz_i (if hI h a 2 ≤ 0 ∨ hI h a 4 ≤ 0 ∨ ¬ hI h a 7 = 0 then 0 else 1), h) := by
  rw [E143]; simp only [bI_some, bV_some, bR_some, bL_some, ob_some, cd_t, cd_f, cd_d, okO_setI, okA_setI, okL_setI, aLen_setI, hR_setI, hI_setI, Bool.true_and, Bool.and_true, Bool.and_self, Option.isNone_some, Option.isSome_some, Option.isNone_none, Option.isSome_none, WD w hd]
  by_cases h1 : hI h a 2 ≤ 0 <;> by_cases h2 : hI h a 4 ≤ 0 <;> by_cases h3 : hI h a 7 = 0 <;> simp [h1, h2, h3]
theorem S178 {rb dr : Nat} {jd : Option Nat} {h : rz_H} (w : Wf rb dr jd h) {a : Nat} (ha : isL a) (d : Nat) : cW (d + 1) 178 [rz_r (some a)] h = some (rz_i (hI h a 1), h) := by
  rw [E178]; simp only [bI_some, bV_some, bR_some, bL_some, ob_some, cd_t, cd_f, cd_d, okO_setI, okA_setI, okL_setI, aLen_setI, hR_setI, hI_setI, Bool.true_and, Bool.and_true, Bool.and_self, Option.isNone_some, Option.isSome_some, Option.isNone_none, Option.isSome_none, WLd w ha]
theorem S179 {rb dr : Nat} {jd : Option Nat} {h : rz_H} (w : Wf rb dr jd h) {a : Nat} (ha : isL a) (d : Nat) : cW (d + 1) 179 [rz_r (some a)] h = some (rz_i (hI h a 2), h) := by
  rw [E179]; simp only [bI_some, bV_some, bR_some, bL_some, ob_some, cd_t, cd_f, cd_d, okO_setI, okA_setI, okL_setI, aLen_setI, hR_setI, hI_setI, Bool.true_and, Bool.and_true, Bool.and_self, Option.isNone_some, Option.isSome_some, Option.isNone_none, Option.isSome_none, WLd w ha]
theorem S180 {rb dr : Nat} {jd : Option Nat} {h : rz_H} (w : Wf rb dr jd h) {a : Nat} (ha : isL a) (d : Nat) (x : Int32) : cW (d + 1) 180 [rz_r (some a), rz_i x] h = some (rz_i 0, setI h a 2 x) := by
  rw [E180]; simp only [bI_some, bV_some, bR_some, bL_some, ob_some, cd_t, cd_f, cd_d, okO_setI, okA_setI, okL_setI, aLen_setI, hR_setI, hI_setI, Bool.true_and, Bool.and_true, Bool.and_self, Option.isNone_some, Option.isSome_some, Option.isNone_none, Option.isSome_none, WLd w ha]
theorem S268 {rb dr : Nat} {jd : Option Nat} {h : rz_H} (w : Wf rb dr jd h) (d : Nat) : cW (d + 1) 268 [rz_r (some 1)] h = some (rz_i (hI h 1 1), h) := by
  rw [E268]; simp only [bI_some, bV_some, bR_some, bL_some, ob_some, cd_t, cd_f, cd_d, okO_setI, okA_setI, okL_setI, aLen_setI, hR_setI, hI_setI, Bool.true_and, Bool.and_true, Bool.and_self, Option.isNone_some, Option.isSome_some, Option.isNone_none, Option.isSome_none, WTp w]
theorem S272 {rb dr : Nat} {jd : Option Nat} {h : rz_H} (w : Wf rb dr jd h) (d : Nat) : cW (d + 1) 272 [rz_r (some 1)] h = some (rz_i 0, setI h 1 1 0) := by
  rw [E272]; simp only [bI_some, bV_some, bR_some, bL_some, ob_some, cd_t, cd_f, cd_d, okO_setI, okA_setI, okL_setI, aLen_setI, hR_setI, hI_setI, Bool.true_and, Bool.and_true, Bool.and_self, Option.isNone_some, Option.isSome_some, Option.isNone_none, Option.isSome_none, WTp w]
theorem S33 (d : Nat) (h : rz_H) (x l u : Int32) : cW (d + 1) 33 [rz_i x, rz_i l, rz_i u] h = some (rz_i (if l ≤ x ∧ x ≤ u then 1 else 0), h) := by
  rw [E33]; simp only [bI_some, bV_some, bR_some, bL_some, ob_some, cd_t, cd_f, cd_d, okO_setI, okA_setI, okL_setI, aLen_setI, hR_setI, hI_setI, Bool.true_and, Bool.and_true, Bool.and_self, Option.isNone_some, Option.isSome_some, Option.isNone_none, Option.isSome_none]
  by_cases h1 : l ≤ x
  · by_cases h2 : x ≤ u
    · rw [if_neg (Int32.not_lt.mpr h1), if_neg (Int32.not_lt.mpr h2), if_pos ⟨h1, h2⟩]
    · rw [if_neg (Int32.not_lt.mpr h1), if_pos (Int32.not_le.mp h2), if_neg (fun q => h2 q.2)]
  · rw [if_pos (Int32.not_le.mp h1), if_neg (fun q => h1 q.1)]
