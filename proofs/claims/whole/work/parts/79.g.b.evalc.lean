/-! what the law's steps come to: the class's -/
theorem C174 {rb dr : Nat} {jd : Option Nat} {h : rz_H} (w : Wf rb dr jd h) {p : Nat} (hp : hI h 95 1 = nI p) (h64 : p < 64) (d : Nat) (x : Int32) : cW (d + 1) 174 [rz_r (some 95), rz_i x] h = some (rz_i 0, setI (setI h 102 p x) 95 1 (nI (p + 1))) := by
  rw [E174]
  simp (disch := omega) only [↓cd_d, ↓irem_eq_mod, ↓ob_setI, ↓ob_chI, ↓ob_some, bI_some, bV_some, bR_some, bL_some, ob_some, cd_t, cd_f, okO_setI, okA_setI, okL_setI, aLen_setI, hR_setI, hI_setI, Bool.true_and, Bool.and_true, Bool.and_self, Option.isNone_some, Option.isSome_some, Option.isNone_none, Option.isSome_none, okO_chI, okA_chI, okL_chI, aLen_chI, hR_chI, ↓reduceIte, not_true_eq_false, not_false_eq_true, eq_self, c10, Nat.zero_add, nI_add, litA, litB, litM, nI_mul, nI_leI, nI_ltI, nI_eq, litLe, litLe2, litLt, litLt2, litEq, litEq2, in_nI, lit_in, nI_clamp, lit_cl, if_pos, if_neg, ↓WCb w, WJg w, hp]
theorem C175 {rb dr : Nat} {jd : Option Nat} {h : rz_H} (w : Wf rb dr jd h) {p : Nat} (hp : hI h 95 1 = nI (p + 1)) (h64 : p < 64) (d : Nat) : cW (d + 1) 175 [rz_r (some 95)] h = some (rz_i (hI h 102 p), setI h 95 1 (nI p)) := by
  have u : nI (p + 1) - 1 = nI p := nI_pred p
  rw [E175]
  simp (disch := omega) only [↓cd_d, ↓irem_eq_mod, ↓ob_setI, ↓ob_chI, ↓ob_some, bI_some, bV_some, bR_some, bL_some, ob_some, cd_t, cd_f, okO_setI, okA_setI, okL_setI, aLen_setI, hR_setI, hI_setI, Bool.true_and, Bool.and_true, Bool.and_self, Option.isNone_some, Option.isSome_some, Option.isNone_none, Option.isSome_none, okO_chI, okA_chI, okL_chI, aLen_chI, hR_chI, ↓reduceIte, not_true_eq_false, not_false_eq_true, eq_self, c10, Nat.zero_add, nI_add, litA, litB, litM, nI_mul, nI_leI, nI_ltI, nI_eq, litLe, litLe2, litLt, litLt2, litEq, litEq2, in_nI, lit_in, nI_clamp, lit_cl, if_pos, if_neg, ↓WCb w, WJg w, hp, u, and_self]
theorem C176 {rb dr : Nat} {jd : Option Nat} {h : rz_H} (w : Wf rb dr jd h) {p : Nat} (hp : hI h 95 1 = nI (p + 1)) (h64 : p < 64) (d : Nat) : cW (d + 1) 176 [rz_r (some 95)] h = some (rz_i (hI h 102 p), h) := by
  have u : nI (p + 1) - 1 = nI p := nI_pred p
  rw [E176]
  simp (disch := omega) only [↓cd_d, ↓irem_eq_mod, ↓ob_setI, ↓ob_chI, ↓ob_some, bI_some, bV_some, bR_some, bL_some, ob_some, cd_t, cd_f, okO_setI, okA_setI, okL_setI, aLen_setI, hR_setI, hI_setI, Bool.true_and, Bool.and_true, Bool.and_self, Option.isNone_some, Option.isSome_some, Option.isNone_none, Option.isSome_none, okO_chI, okA_chI, okL_chI, aLen_chI, hR_chI, ↓reduceIte, not_true_eq_false, not_false_eq_true, eq_self, c10, Nat.zero_add, nI_add, litA, litB, litM, nI_mul, nI_leI, nI_ltI, nI_eq, litLe, litLe2, litLt, litLt2, litEq, litEq2, in_nI, lit_in, nI_clamp, lit_cl, if_pos, if_neg, ↓WCb w, WJg w, hp, u]
def sgn (g : Nat) : Nat := [43, 45, 42, 47, 37, 60, 62, 61].getD g 0
def ltr (v : Nat) : Nat := [107, 112, 110, 117, 102, 115, 103, 116, 119].getD v 0
theorem C172 (d : Nat) (h : rz_H) {g : Nat} (hg : g < 8) (x y : Int32) (hy : ¬ ((g = 3 ∨ g = 4) ∧ y = 0)) : cW (d + 1) 172 [rz_r (some 95), rz_i (nI (sgn g)), rz_i x, rz_i y] h = some (rz_i (rck (2 + g) x y), h) := by
  rw [X172]
  simp only [cd_d]
  rcases (show g = 0 ∨ g = 1 ∨ g = 2 ∨ g = 3 ∨ g = 4 ∨ g = 5 ∨ g = 6 ∨ g = 7 by omega) with rfl | rfl | rfl | rfl | rfl | rfl | rfl | rfl
  · rw [if_neg (by decide), if_neg (by decide), if_pos (by decide), X172_2]; rfl
  · rw [if_neg (by decide), if_neg (by decide), if_neg (by decide), if_pos (by decide), X172_6]; rfl
  · rw [if_neg (by decide), if_pos (by decide), X172_10]; rfl
  · have c2 : ¬ y = 0 := fun q => hy ⟨Or.inl rfl, q⟩
    rw [if_neg (by decide), if_neg (by decide), if_neg (by decide), if_neg (by decide), if_pos (by decide), X172_14]
    simp only [cd_d]
    rw [if_pos c2, X172_21]
    simp only [cd_d]
    rw [if_neg (by decide), X172_24]
    simp only [cd_d]
    rw [if_pos c2]; rfl
  · have c2 : ¬ y = 0 := fun q => hy ⟨Or.inr rfl, q⟩
    rw [if_pos (by decide), X172_14]
    simp only [cd_d]
    rw [if_pos c2, X172_21]
    simp only [cd_d]
    rw [if_pos (by decide), X172_28]
    simp only [cd_d]
    rw [if_pos c2]; rfl
  · rw [if_neg (by decide), if_neg (by decide), if_neg (by decide), if_neg (by decide), if_neg (by decide), if_pos (by decide), X172_32]
    simp only [cd_d]
    have : rck (2 + 5) x y = if y ≤ x then 0 else 1 := rfl
    rw [this]
    split
    · rw [X172_37]
    · rw [X172_35]
  · rw [if_neg (by decide), if_neg (by decide), if_neg (by decide), if_neg (by decide), if_neg (by decide), if_neg (by decide), if_pos (by decide), X172_39]
    simp only [cd_d]
    have : rck (2 + 6) x y = if x ≤ y then 0 else 1 := rfl
    rw [this]
    split
    · rw [X172_44]
    · rw [X172_42]
  · rw [if_neg (by decide), if_neg (by decide), if_neg (by decide), if_neg (by decide), if_neg (by decide), if_neg (by decide), if_neg (by decide), X172_46]
    simp only [cd_d]
    have : rck (2 + 7) x y = if x = y then 1 else 0 := rfl
    rw [this]
    by_cases c : x = y
    · rw [if_neg (fun q => q c), if_pos c, X172_49]
    · rw [if_pos c, if_neg c, X172_51]
theorem C172z {rb dr : Nat} {jd : Option Nat} {h : rz_H} (w : Wf rb dr jd h) {g : Nat} (hg : g = 3 ∨ g = 4) (d : Nat) (x : Int32) : cW (d + 1) 172 [rz_r (some 95), rz_i (nI (sgn g)), rz_i x, rz_i 0] h = some (rz_i 0, setI h 95 2 1) := by
  have d1 : (decide ((1 : Int32) = 0) || decide ((1 : Int32) = 1)) = true := rfl
  rw [X172]
  simp only [cd_d]
  rcases hg with rfl | rfl
  · rw [if_neg (by decide), if_neg (by decide), if_neg (by decide), if_neg (by decide), if_pos (by decide), X172_14]
    simp only [bI_some, bV_some, bR_some, bL_some, ob_some, cd_t, cd_f, cd_d, okO_setI, okA_setI, okL_setI, aLen_setI, hR_setI, hI_setI, Bool.true_and, Bool.and_true, Bool.and_self, Option.isNone_some, Option.isSome_some, Option.isNone_none, Option.isSome_none, okO_chI, okA_chI, okL_chI, aLen_chI, hR_chI, ↓reduceIte, not_true_eq_false, not_false_eq_true, eq_self, c10, X172_16, d1, WJg w, X172_19]
    rfl
  · rw [if_pos (by decide), X172_14]
    simp only [bI_some, bV_some, bR_some, bL_some, ob_some, cd_t, cd_f, cd_d, okO_setI, okA_setI, okL_setI, aLen_setI, hR_setI, hI_setI, Bool.true_and, Bool.and_true, Bool.and_self, Option.isNone_some, Option.isSome_some, Option.isNone_none, Option.isSome_none, okO_chI, okA_chI, okL_chI, aLen_chI, hR_chI, ↓reduceIte, not_true_eq_false, not_false_eq_true, eq_self, c10, X172_16, d1, WJg w, X172_19]
    rfl
/-- what the law looks at -/
def fct (k F p t s : Nat) (g e : Nat → Nat) (tk dw : Nat) : Nat → Int32 := fun v => nI ([k, shw g e p, F, t, e p, s, gps F g e, tk % 100, dw].getD v 0)
theorem C173 {rb dr : Nat} {h : rz_H} {a : Nat} (w : Wf rb dr (some a) h) (hd : isD a) {F p t v s q : Nat} {g e : Nat → Nat} (O : tOk F p t v s q g e) (C : Dc h a F p t v s q g e) (h0 : 0 < F) {k tk dw : Nat} (n1 : hI h 95 5 = nI k) (n2 : hI h 95 6 = nI tk) (htk : tk < 10000) (n3 : hI h 95 7 = nI dw) {v9 : Nat} (hv : v9 < 9) (d : Nat) : cW (d + 2) 173 [rz_r (some 95), rz_i (nI (ltr v9))] h = some (rz_i (fct k F p t s g e tk dw v9), h) := by
  have c146 := C146 w hd O C h0
  have c147 := C147 w hd O C
  obtain ⟨hp, -⟩ := O.2.2.2.2.2.1 h0
  have c145 := C145 w hd O C hp
  have h4 : hR h 95 4 = some a := (WJg w).2.2.2.1
  obtain ⟨c1, c2, c3, c4, c5, c6, c7⟩ := C
  rw [E173]
  simp only [bI_some, bV_some, bR_some, bL_some, ob_some, cd_t, cd_f, cd_d, okO_setI, okA_setI, okL_setI, aLen_setI, hR_setI, hI_setI, Bool.true_and, Bool.and_true, Bool.and_self, Option.isNone_some, Option.isSome_some, Option.isNone_none, Option.isSome_none, okO_chI, okA_chI, okL_chI, aLen_chI, hR_chI, ↓reduceIte, not_true_eq_false, not_false_eq_true, eq_self, c10, WJg w, h4]
  rcases (show v9 = 0 ∨ v9 = 1 ∨ v9 = 2 ∨ v9 = 3 ∨ v9 = 4 ∨ v9 = 5 ∨ v9 = 6 ∨ v9 = 7 ∨ v9 = 8 by omega) with rfl | rfl | rfl | rfl | rfl | rfl | rfl | rfl | rfl
  · rw [if_neg (by decide), if_neg (by decide), if_neg (by decide), if_neg (by decide), if_neg (by decide), if_pos (by decide)]
    rw [n1]; rfl
  · rw [if_neg (by decide), if_neg (by decide), if_neg (by decide), if_neg (by decide), if_neg (by decide), if_neg (by decide), if_neg (by decide), if_neg (by decide), if_neg (by decide), if_neg (by decide), if_pos (by decide)]
    simp only [bI_some, bV_some, bR_some, bL_some, ob_some, cd_t, cd_f, cd_d, okO_setI, okA_setI, okL_setI, aLen_setI, hR_setI, hI_setI, Bool.true_and, Bool.and_true, Bool.and_self, Option.isNone_some, Option.isSome_some, Option.isNone_none, Option.isSome_none, okO_chI, okA_chI, okL_chI, aLen_chI, hR_chI, ↓reduceIte, not_true_eq_false, not_false_eq_true, eq_self, c10, WD w hd, c146]; rfl
  · rw [if_neg (by decide), if_neg (by decide), if_neg (by decide), if_neg (by decide), if_neg (by decide), if_neg (by decide), if_neg (by decide), if_neg (by decide), if_pos (by decide)]
    simp only [bI_some, bV_some, bR_some, bL_some, ob_some, cd_t, cd_f, cd_d, okO_setI, okA_setI, okL_setI, aLen_setI, hR_setI, hI_setI, Bool.true_and, Bool.and_true, Bool.and_self, Option.isNone_some, Option.isSome_some, Option.isNone_none, Option.isSome_none, okO_chI, okA_chI, okL_chI, aLen_chI, hR_chI, ↓reduceIte, not_true_eq_false, not_false_eq_true, eq_self, c10, WD w hd, S136 w hd, c1]; rfl
  · rw [if_neg (by decide), if_neg (by decide), if_neg (by decide), if_neg (by decide), if_neg (by decide), if_neg (by decide), if_neg (by decide), if_neg (by decide), if_neg (by decide), if_neg (by decide), if_neg (by decide), if_neg (by decide), if_neg (by decide), if_neg (by decide), if_neg (by decide), if_pos (by decide)]
    simp only [bI_some, bV_some, bR_some, bL_some, ob_some, cd_t, cd_f, cd_d, okO_setI, okA_setI, okL_setI, aLen_setI, hR_setI, hI_setI, Bool.true_and, Bool.and_true, Bool.and_self, Option.isNone_some, Option.isSome_some, Option.isNone_none, Option.isSome_none, okO_chI, okA_chI, okL_chI, aLen_chI, hR_chI, ↓reduceIte, not_true_eq_false, not_false_eq_true, eq_self, c10, WD w hd, S138 w hd, c3]; rfl
  · rw [if_pos (by decide)]
    simp only [bI_some, bV_some, bR_some, bL_some, ob_some, cd_t, cd_f, cd_d, okO_setI, okA_setI, okL_setI, aLen_setI, hR_setI, hI_setI, Bool.true_and, Bool.and_true, Bool.and_self, Option.isNone_some, Option.isSome_some, Option.isNone_none, Option.isSome_none, okO_chI, okA_chI, okL_chI, aLen_chI, hR_chI, ↓reduceIte, not_true_eq_false, not_false_eq_true, eq_self, c10, WD w hd, S137 w hd, c2, c145]; rfl
  · rw [if_neg (by decide), if_neg (by decide), if_neg (by decide), if_neg (by decide), if_neg (by decide), if_neg (by decide), if_neg (by decide), if_neg (by decide), if_neg (by decide), if_neg (by decide), if_neg (by decide), if_neg (by decide), if_neg (by decide), if_pos (by decide)]
    simp only [bI_some, bV_some, bR_some, bL_some, ob_some, cd_t, cd_f, cd_d, okO_setI, okA_setI, okL_setI, aLen_setI, hR_setI, hI_setI, Bool.true_and, Bool.and_true, Bool.and_self, Option.isNone_some, Option.isSome_some, Option.isNone_none, Option.isSome_none, okO_chI, okA_chI, okL_chI, aLen_chI, hR_chI, ↓reduceIte, not_true_eq_false, not_false_eq_true, eq_self, c10, WD w hd, S140 w hd, c5]; rfl
  · rw [if_neg (by decide), if_pos (by decide)]
    simp only [bI_some, bV_some, bR_some, bL_some, ob_some, cd_t, cd_f, cd_d, okO_setI, okA_setI, okL_setI, aLen_setI, hR_setI, hI_setI, Bool.true_and, Bool.and_true, Bool.and_self, Option.isNone_some, Option.isSome_some, Option.isNone_none, Option.isSome_none, okO_chI, okA_chI, okL_chI, aLen_chI, hR_chI, ↓reduceIte, not_true_eq_false, not_false_eq_true, eq_self, c10, WD w hd, c147]; rfl
  · rw [if_neg (by decide), if_neg (by decide), if_neg (by decide), if_neg (by decide), if_neg (by decide), if_neg (by decide), if_neg (by decide), if_neg (by decide), if_neg (by decide), if_neg (by decide), if_neg (by decide), if_neg (by decide), if_neg (by decide), if_neg (by decide), if_pos (by decide)]
    rw [irem_eq_mod, n2, show nI tk % (100 : Int32) = nI (tk % 100) from nI_mod (b := 100) (by omega) (by omega) (by omega)]; rfl
  · rw [if_neg (by decide), if_neg (by decide), if_neg (by decide), if_neg (by decide), if_neg (by decide), if_neg (by decide), if_neg (by decide), if_neg (by decide), if_neg (by decide), if_neg (by decide), if_neg (by decide), if_neg (by decide), if_neg (by decide), if_neg (by decide), if_neg (by decide), if_neg (by decide)]
    rw [n3]; rfl
theorem C195 {rb dr : Nat} {jd : Option Nat} {h : rz_H} (w : Wf rb dr jd h) {a : Nat} (ha : isW a) (d : Nat) : cW (d + 1) 195 [rz_r (some a)] h = some (rz_i (hI h a 6), h) := by
  rw [E195]; simp only [bI_some, bV_some, bR_some, bL_some, ob_some, cd_t, cd_f, cd_d, okO_setI, okA_setI, okL_setI, aLen_setI, hR_setI, hI_setI, Bool.true_and, Bool.and_true, Bool.and_self, Option.isNone_some, Option.isSome_some, Option.isNone_none, Option.isSome_none, okO_chI, okA_chI, okL_chI, aLen_chI, hR_chI, ↓reduceIte, not_true_eq_false, not_false_eq_true, eq_self, c10, WLw w ha]
theorem C194 {rb dr : Nat} {jd : Option Nat} {h : rz_H} (w : Wf rb dr jd h) {a : Nat} (ha : isW a) (d : Nat) : cW (d + 1) 194 [rz_r (some a)] h = some (rz_i (hI h a 5), h) := by
  rw [E194]; simp only [bI_some, bV_some, bR_some, bL_some, ob_some, cd_t, cd_f, cd_d, okO_setI, okA_setI, okL_setI, aLen_setI, hR_setI, hI_setI, Bool.true_and, Bool.and_true, Bool.and_self, Option.isNone_some, Option.isSome_some, Option.isNone_none, Option.isSome_none, okO_chI, okA_chI, okL_chI, aLen_chI, hR_chI, ↓reduceIte, not_true_eq_false, not_false_eq_true, eq_self, c10, WLw w ha]
theorem C202 {rb dr : Nat} {jd : Option Nat} {h : rz_H} (w : Wf rb dr jd h) {a : Nat} (ha : isW a) {st i : Nat} (hs : hI h a 6 = nI st) (h256 : st ≤ 256) (hi : i < st) (d : Nat) : cW (d + 1) 202 [rz_r (some a), rz_i (nI i)] h = some (rz_i (hI h (a + 4) i), h) := by
  rw [E202]
  simp (disch := omega) only [↓cd_d, ↓irem_eq_mod, ↓ob_setI, ↓ob_chI, ↓ob_some, bI_some, bV_some, bR_some, bL_some, ob_some, cd_t, cd_f, okO_setI, okA_setI, okL_setI, aLen_setI, hR_setI, hI_setI, Bool.true_and, Bool.and_true, Bool.and_self, Option.isNone_some, Option.isSome_some, Option.isNone_none, Option.isSome_none, okO_chI, okA_chI, okL_chI, aLen_chI, hR_chI, ↓reduceIte, not_true_eq_false, not_false_eq_true, eq_self, c10, Nat.zero_add, nI_add, litA, litB, litM, nI_mul, nI_leI, nI_ltI, nI_eq, litLe, litLe2, litLt, litLt2, litEq, litEq2, in_nI, lit_in, nI_clamp, lit_cl, if_pos, if_neg, ↓WLwb w ha, WLw w ha, hs]
theorem C203 {rb dr : Nat} {jd : Option Nat} {h : rz_H} (w : Wf rb dr jd h) {a : Nat} (ha : isW a) {st i : Nat} (hs : hI h a 6 = nI st) (h256 : st ≤ 256) (hi : i < st) (d : Nat) : cW (d + 1) 203 [rz_r (some a), rz_i (nI i)] h = some (rz_i (hI h (a + 5) i), h) := by
  rw [E203]
  simp (disch := omega) only [↓cd_d, ↓irem_eq_mod, ↓ob_setI, ↓ob_chI, ↓ob_some, bI_some, bV_some, bR_some, bL_some, ob_some, cd_t, cd_f, okO_setI, okA_setI, okL_setI, aLen_setI, hR_setI, hI_setI, Bool.true_and, Bool.and_true, Bool.and_self, Option.isNone_some, Option.isSome_some, Option.isNone_none, Option.isSome_none, okO_chI, okA_chI, okL_chI, aLen_chI, hR_chI, ↓reduceIte, not_true_eq_false, not_false_eq_true, eq_self, c10, Nat.zero_add, nI_add, litA, litB, litM, nI_mul, nI_leI, nI_ltI, nI_eq, litLe, litLe2, litLt, litLt2, litEq, litEq2, in_nI, lit_in, nI_clamp, lit_cl, if_pos, if_neg, ↓WLwb w ha, WLw w ha, hs]
theorem C199 {rb dr : Nat} {jd : Option Nat} {h : rz_H} (w : Wf rb dr jd h) {a : Nat} (ha : isW a) {i : Nat} (hi : i < 16) (d : Nat) : cW (d + 1) 199 [rz_r (some a), rz_i (nI i)] h = some (rz_i (hI h (a + 1) i), h) := by
  rw [E199]
  simp (disch := omega) only [↓cd_d, ↓irem_eq_mod, ↓ob_setI, ↓ob_chI, ↓ob_some, bI_some, bV_some, bR_some, bL_some, ob_some, cd_t, cd_f, okO_setI, okA_setI, okL_setI, aLen_setI, hR_setI, hI_setI, Bool.true_and, Bool.and_true, Bool.and_self, Option.isNone_some, Option.isSome_some, Option.isNone_none, Option.isSome_none, okO_chI, okA_chI, okL_chI, aLen_chI, hR_chI, ↓reduceIte, not_true_eq_false, not_false_eq_true, eq_self, c10, Nat.zero_add, nI_add, litA, litB, litM, nI_mul, nI_leI, nI_ltI, nI_eq, litLe, litLe2, litLt, litLt2, litEq, litEq2, in_nI, lit_in, nI_clamp, lit_cl, if_pos, if_neg, ↓WLwb w ha, WLw w ha]
theorem C200 {rb dr : Nat} {jd : Option Nat} {h : rz_H} (w : Wf rb dr jd h) {a : Nat} (ha : isW a) {i : Nat} (hi : i < 16) (d : Nat) : cW (d + 1) 200 [rz_r (some a), rz_i (nI i)] h = some (rz_i (hI h (a + 2) i), h) := by
  rw [E200]
  simp (disch := omega) only [↓cd_d, ↓irem_eq_mod, ↓ob_setI, ↓ob_chI, ↓ob_some, bI_some, bV_some, bR_some, bL_some, ob_some, cd_t, cd_f, okO_setI, okA_setI, okL_setI, aLen_setI, hR_setI, hI_setI, Bool.true_and, Bool.and_true, Bool.and_self, Option.isNone_some, Option.isSome_some, Option.isNone_none, Option.isSome_none, okO_chI, okA_chI, okL_chI, aLen_chI, hR_chI, ↓reduceIte, not_true_eq_false, not_false_eq_true, eq_self, c10, Nat.zero_add, nI_add, litA, litB, litM, nI_mul, nI_leI, nI_ltI, nI_eq, litLe, litLe2, litLt, litLt2, litEq, litEq2, in_nI, lit_in, nI_clamp, lit_cl, if_pos, if_neg, ↓WLwb w ha, WLw w ha]
theorem C201 {rb dr : Nat} {jd : Option Nat} {h : rz_H} (w : Wf rb dr jd h) {a : Nat} (ha : isW a) {i : Nat} (hi : i < 16) (d : Nat) : cW (d + 1) 201 [rz_r (some a), rz_i (nI i)] h = some (rz_i (hI h (a + 3) i), h) := by
  rw [E201]
  simp (disch := omega) only [↓cd_d, ↓irem_eq_mod, ↓ob_setI, ↓ob_chI, ↓ob_some, bI_some, bV_some, bR_some, bL_some, ob_some, cd_t, cd_f, okO_setI, okA_setI, okL_setI, aLen_setI, hR_setI, hI_setI, Bool.true_and, Bool.and_true, Bool.and_self, Option.isNone_some, Option.isSome_some, Option.isNone_none, Option.isSome_none, okO_chI, okA_chI, okL_chI, aLen_chI, hR_chI, ↓reduceIte, not_true_eq_false, not_false_eq_true, eq_self, c10, Nat.zero_add, nI_add, litA, litB, litM, nI_mul, nI_leI, nI_ltI, nI_eq, litLe, litLe2, litLt, litLt2, litEq, litEq2, in_nI, lit_in, nI_clamp, lit_cl, if_pos, if_neg, ↓WLwb w ha, WLw w ha]
theorem K1 (d : Nat) (x y : Int32) (h : rz_H) : cW (d + 1) 171 [rz_r (some 95), rz_i x, rz_i 1, rz_i y] h = rW d 171 (2, (0, 0), [some (rz_r (some 95)), some (rz_i x), some (rz_i 1), some (rz_i y), none], [], h) := by
  rw [X171]
  simp only [cd_d]
  rw [if_pos (by decide)]
theorem K2 (d : Nat) (x y : Int32) (h : rz_H) : cW (d + 1) 171 [rz_r (some 95), rz_i x, rz_i 2, rz_i y] h = rW d 171 (6, (0, 0), [some (rz_r (some 95)), some (rz_i x), some (rz_i 2), some (rz_i y), none], [], h) := by
  rw [X171]
  simp only [cd_d]
  rw [if_neg (by decide), if_pos (by decide)]
theorem K3 (d : Nat) (x y : Int32) (h : rz_H) : cW (d + 1) 171 [rz_r (some 95), rz_i x, rz_i 3, rz_i y] h = rW d 171 (12, (0, 0), [some (rz_r (some 95)), some (rz_i x), some (rz_i 3), some (rz_i y), none], [], h) := by
  rw [X171]
  simp only [cd_d]
  rw [if_neg (by decide), if_neg (by decide), if_pos (by decide)]
theorem K4 (d : Nat) (x y : Int32) (h : rz_H) : cW (d + 1) 171 [rz_r (some 95), rz_i x, rz_i 4, rz_i y] h = rW d 171 (21, (0, 0), [some (rz_r (some 95)), some (rz_i x), some (rz_i 4), some (rz_i y), none], [], h) := by
  rw [X171]
  simp only [cd_d]
  rw [if_neg (by decide), if_neg (by decide), if_neg (by decide), if_pos (by decide)]
theorem K5 (d : Nat) (x y : Int32) (h : rz_H) : cW (d + 1) 171 [rz_r (some 95), rz_i x, rz_i 5, rz_i y] h = rW d 171 (21, (0, 0), [some (rz_r (some 95)), some (rz_i x), some (rz_i 5), some (rz_i y), none], [], h) := by
  rw [X171]
  simp only [cd_d]
  rw [if_neg (by decide), if_neg (by decide), if_neg (by decide), if_neg (by decide), if_pos (by decide)]
theorem Kg (d : Nat) {g : Nat} (hg : g < 8) (x y : Int32) (h : rz_H) : cW (d + 1) 171 [rz_r (some 95), rz_i x, rz_i (nI (sgn g)), rz_i y] h = rW d 171 (40, (0, 0), [some (rz_r (some 95)), some (rz_i x), some (rz_i (nI (sgn g))), some (rz_i y), none], [], h) := by
  rw [X171]
  simp only [cd_d]
  rcases (show g = 0 ∨ g = 1 ∨ g = 2 ∨ g = 3 ∨ g = 4 ∨ g = 5 ∨ g = 6 ∨ g = 7 by omega) with rfl | rfl | rfl | rfl | rfl | rfl | rfl | rfl
  all_goals rw [if_neg (by decide), if_neg (by decide), if_neg (by decide), if_neg (by decide), if_neg (by decide)]
theorem D1 {rb dr : Nat} {jd : Option Nat} {h : rz_H} (w : Wf rb dr jd h) {p : Nat} (hp : hI h 95 1 = nI p) (h64 : p < 64) (d : Nat) (x y : Int32) : cW (d + 2) 171 [rz_r (some 95), rz_i x, rz_i 1, rz_i y] h = some (rz_i (x + 1), setI (setI h 102 p y) 95 1 (nI (p + 1))) := by
  rw [K1, X171_2]
  simp only [bI_some, bV_some, bR_some, bL_some, ob_some, cd_t, cd_f, cd_d, okO_setI, okA_setI, okL_setI, aLen_setI, hR_setI, hI_setI, Bool.true_and, Bool.and_true, Bool.and_self, Option.isNone_some, Option.isSome_some, Option.isNone_none, Option.isSome_none, okO_chI, okA_chI, okL_chI, aLen_chI, hR_chI, ↓reduceIte, not_true_eq_false, not_false_eq_true, eq_self, c10, WJg w, C174 w hp h64, X171_5, X171_51]
theorem D2 {rb dr : Nat} {jd : Option Nat} {h : rz_H} (w : Wf rb dr jd h) {p : Nat} (hp : hI h 95 1 = nI p) (h64 : p < 64) (d : Nat) (x y z : Int32) (lk : cW (d + 2) 173 [rz_r (some 95), rz_i y] h = some (rz_i z, h)) : cW (d + 3) 171 [rz_r (some 95), rz_i x, rz_i 2, rz_i y] h = some (rz_i (x + 1), setI (setI h 102 p z) 95 1 (nI (p + 1))) := by
  rw [K2, X171_6]
  simp only [bI_some, bV_some, bR_some, bL_some, ob_some, cd_t, cd_f, cd_d, okO_setI, okA_setI, okL_setI, aLen_setI, hR_setI, hI_setI, Bool.true_and, Bool.and_true, Bool.and_self, Option.isNone_some, Option.isSome_some, Option.isNone_none, Option.isSome_none, okO_chI, okA_chI, okL_chI, aLen_chI, hR_chI, ↓reduceIte, not_true_eq_false, not_false_eq_true, eq_self, c10, WJg w, lk, C174 w hp h64, X171_11, X171_51]
theorem D3 {rb dr : Nat} {jd : Option Nat} {h : rz_H} (w : Wf rb dr jd h) {p : Nat} (hp : hI h 95 1 = nI (p + 1)) (h64 : p < 64) (h01 : hI h 102 p = 0 ∨ hI h 102 p = 1) (d : Nat) (x y : Int32) : ∃ k', cW (d + 2) 171 [rz_r (some 95), rz_i x, rz_i 3, rz_i y] h = some (rz_i (x + 1), k') ∧ k'.2 = h.2 ∧ hI k' 95 1 = nI (p + 1) ∧ hI k' 102 p = 1 - hI h 102 p ∧ (∀ b i, ¬ (b = 95 ∧ i = 1) → ¬ (b = 102 ∧ i = p) → hI k' b i = hI h b i) := by
  have w2 : Wf rb dr jd (setI h 95 1 (nI p)) := w
  have q : hI (setI h 95 1 (nI p)) 95 1 = nI p := by rw [hI_setI, if_pos ⟨rfl, rfl⟩]
  refine ⟨setI (setI (setI h 95 1 (nI p)) 102 p (1 - hI h 102 p)) 95 1 (nI (p + 1)), ?_, rfl, by rw [hI_setI, if_pos ⟨rfl, rfl⟩], by rw [hI_setI, if_neg (by omega), hI_setI, if_pos ⟨rfl, rfl⟩], fun b i n1 n2 => by rw [hI_setI, if_neg n1, hI_setI, if_neg n2, hI_setI, if_neg n1]⟩
  rw [K3, X171_12]
  rcases h01 with e | e
  · simp only [bI_some, bV_some, bR_some, bL_some, ob_some, cd_t, cd_f, cd_d, okO_setI, okA_setI, okL_setI, aLen_setI, hR_setI, hI_setI, Bool.true_and, Bool.and_true, Bool.and_self, Option.isNone_some, Option.isSome_some, Option.isNone_none, Option.isSome_none, okO_chI, okA_chI, okL_chI, aLen_chI, hR_chI, ↓reduceIte, not_true_eq_false, not_false_eq_true, eq_self, c10, WJg w, C175 w hp h64, e, C174 w2 q h64, X171_20, X171_51]
    rfl
  · simp only [bI_some, bV_some, bR_some, bL_some, ob_some, cd_t, cd_f, cd_d, okO_setI, okA_setI, okL_setI, aLen_setI, hR_setI, hI_setI, Bool.true_and, Bool.and_true, Bool.and_self, Option.isNone_some, Option.isSome_some, Option.isNone_none, Option.isSome_none, okO_chI, okA_chI, okL_chI, aLen_chI, hR_chI, ↓reduceIte, not_true_eq_false, not_false_eq_true, eq_self, c10, WJg w, C175 w hp h64, e, C174 w2 q h64, X171_20, X171_51]
    rfl
theorem D5 {rb dr : Nat} {jd : Option Nat} {h : rz_H} (w : Wf rb dr jd h) {p : Nat} (hp : hI h 95 1 = nI (p + 1)) (h64 : p < 64) (d : Nat) (x y : Int32) : cW (d + 2) 171 [rz_r (some 95), rz_i x, rz_i 5, rz_i y] h = if hI h 102 p = 0 then some (rz_i y, h) else some (rz_i (x + 1), setI h 95 1 (nI p)) := by
  have e54 : ¬ (5 : Int32) = 4 := by decide
  have e01 : ¬ (0 : Int32) = 1 := by decide
  rw [K5, X171_21]
  by_cases c : hI h 102 p = 0
  · simp only [bI_some, bV_some, bR_some, bL_some, ob_some, cd_t, cd_f, cd_d, okO_setI, okA_setI, okL_setI, aLen_setI, hR_setI, hI_setI, Bool.true_and, Bool.and_true, Bool.and_self, Option.isNone_some, Option.isSome_some, Option.isNone_none, Option.isSome_none, okO_chI, okA_chI, okL_chI, aLen_chI, hR_chI, ↓reduceIte, not_true_eq_false, not_false_eq_true, eq_self, c10, WJg w, C176 w hp h64, c, X171_26, e54, X171_34]
  · simp only [bI_some, bV_some, bR_some, bL_some, ob_some, cd_t, cd_f, cd_d, okO_setI, okA_setI, okL_setI, aLen_setI, hR_setI, hI_setI, Bool.true_and, Bool.and_true, Bool.and_self, Option.isNone_some, Option.isSome_some, Option.isNone_none, Option.isSome_none, okO_chI, okA_chI, okL_chI, aLen_chI, hR_chI, ↓reduceIte, not_true_eq_false, not_false_eq_true, eq_self, c10, WJg w, C176 w hp h64, c, X171_24, e54, X171_36, C175 w hp h64, X171_51]
theorem D4 {rb dr : Nat} {jd : Option Nat} {h : rz_H} (w : Wf rb dr jd h) {p : Nat} (hp : hI h 95 1 = nI (p + 1)) (h64 : p < 64) (d : Nat) (x y : Int32) : cW (d + 2) 171 [rz_r (some 95), rz_i x, rz_i 4, rz_i y] h = if hI h 102 p = 0 then some (rz_i (x + 1), setI h 95 1 (nI p)) else some (rz_i y, h) := by
  have e01 : ¬ (0 : Int32) = 1 := by decide
  rw [K4, X171_21]
  by_cases c : hI h 102 p = 0
  · simp only [bI_some, bV_some, bR_some, bL_some, ob_some, cd_t, cd_f, cd_d, okO_setI, okA_setI, okL_setI, aLen_setI, hR_setI, hI_setI, Bool.true_and, Bool.and_true, Bool.and_self, Option.isNone_some, Option.isSome_some, Option.isNone_none, Option.isSome_none, okO_chI, okA_chI, okL_chI, aLen_chI, hR_chI, ↓reduceIte, not_true_eq_false, not_false_eq_true, eq_self, c10, WJg w, C176 w hp h64, c, X171_26, e01, X171_36, C175 w hp h64, X171_51]
  · simp only [bI_some, bV_some, bR_some, bL_some, ob_some, cd_t, cd_f, cd_d, okO_setI, okA_setI, okL_setI, aLen_setI, hR_setI, hI_setI, Bool.true_and, Bool.and_true, Bool.and_self, Option.isNone_some, Option.isSome_some, Option.isNone_none, Option.isSome_none, okO_chI, okA_chI, okL_chI, aLen_chI, hR_chI, ↓reduceIte, not_true_eq_false, not_false_eq_true, eq_self, c10, WJg w, C176 w hp h64, c, X171_24, X171_34]
theorem Dg {rb dr : Nat} {jd : Option Nat} {h : rz_H} (w : Wf rb dr jd h) {p : Nat} (hp : hI h 95 1 = nI (p + 2)) (h64 : p + 1 < 64) {g : Nat} (hg : g < 8) (hy : ¬ ((g = 3 ∨ g = 4) ∧ hI h 102 (p + 1) = 0)) (d : Nat) (x y : Int32) : ∃ k', cW (d + 2) 171 [rz_r (some 95), rz_i x, rz_i (nI (sgn g)), rz_i y] h = some (rz_i (x + 1), k') ∧ k'.2 = h.2 ∧ hI k' 95 1 = nI (p + 1) ∧ hI k' 102 p = rck (2 + g) (hI h 102 p) (hI h 102 (p + 1)) ∧ (∀ b i, ¬ (b = 95 ∧ i = 1) → ¬ (b = 102 ∧ i = p) → hI k' b i = hI h b i) := by
  have w1 : Wf rb dr jd (setI h 95 1 (nI (p + 1))) := w
  have q1 : hI (setI h 95 1 (nI (p + 1))) 95 1 = nI (p + 1) := by rw [hI_setI, if_pos ⟨rfl, rfl⟩]
  have w2 : Wf rb dr jd (setI (setI h 95 1 (nI (p + 1))) 95 1 (nI p)) := w
  have q2 : hI (setI (setI h 95 1 (nI (p + 1))) 95 1 (nI p)) 95 1 = nI p := by rw [hI_setI, if_pos ⟨rfl, rfl⟩]
  have q3 : hI (setI h 95 1 (nI (p + 1))) 102 p = hI h 102 p := by rw [hI_setI, if_neg (by omega)]
  have c1 := C175 w (p := p + 1) hp h64
  have c2 := C175 w1 q1 (by omega : p < 64)
  rw [q3] at c2
  have c3 := fun d => C172 d (setI (setI h 95 1 (nI (p + 1))) 95 1 (nI p)) hg (hI h 102 p) (hI h 102 (p + 1)) hy
  have c4 := C174 w2 q2 (by omega : p < 64)
  refine ⟨setI (setI (setI (setI h 95 1 (nI (p + 1))) 95 1 (nI p)) 102 p (rck (2 + g) (hI h 102 p) (hI h 102 (p + 1)))) 95 1 (nI (p + 1)), ?_, rfl, by rw [hI_setI, if_pos ⟨rfl, rfl⟩], by rw [hI_setI, if_neg (by omega), hI_setI, if_pos ⟨rfl, rfl⟩], fun b i n1 n2 => by rw [hI_setI, if_neg n1, hI_setI, if_neg n2, hI_setI, if_neg n1, hI_setI, if_neg n1]⟩
  rw [Kg _ hg, X171_40]
  simp only [bI_some, bV_some, cd_t, okO_setI, WJg w, c1, X171_43, c2, c3, c4, X171_51]
theorem Dz {rb dr : Nat} {jd : Option Nat} {h : rz_H} (w : Wf rb dr jd h) {p : Nat} (hp : hI h 95 1 = nI (p + 2)) (h64 : p + 1 < 64) {g : Nat} (hg : g = 3 ∨ g = 4) (hy : hI h 102 (p + 1) = 0) (d : Nat) (x y : Int32) : ∃ k', cW (d + 2) 171 [rz_r (some 95), rz_i x, rz_i (nI (sgn g)), rz_i y] h = some (rz_i (x + 1), k') ∧ k'.2 = h.2 ∧ hI k' 95 2 = 1 ∧ (∀ b i, ¬ (b = 95 ∧ (i = 1 ∨ i = 2)) → b ≠ 102 → hI k' b i = hI h b i) := by
  have w1 : Wf rb dr jd (setI h 95 1 (nI (p + 1))) := w
  have q1 : hI (setI h 95 1 (nI (p + 1))) 95 1 = nI (p + 1) := by rw [hI_setI, if_pos ⟨rfl, rfl⟩]
  have w2 : Wf rb dr jd (setI (setI h 95 1 (nI (p + 1))) 95 1 (nI p)) := w
  have w3 : Wf rb dr jd (setI (setI (setI h 95 1 (nI (p + 1))) 95 1 (nI p)) 95 2 1) := w
  have q2 : hI (setI (setI (setI h 95 1 (nI (p + 1))) 95 1 (nI p)) 95 2 1) 95 1 = nI p := by rw [hI_setI, if_neg (by omega), hI_setI, if_pos ⟨rfl, rfl⟩]
  have c1 := C175 w (p := p + 1) hp h64
  rw [hy] at c1
  have c2 := C175 w1 q1 (by omega : p < 64)
  have c3 := fun d x => C172z w2 hg d x
  have c4 := C174 w3 q2 (by omega : p < 64)
  refine ⟨setI (setI (setI (setI (setI h 95 1 (nI (p + 1))) 95 1 (nI p)) 95 2 1) 102 p 0) 95 1 (nI (p + 1)), ?_, rfl, by rw [hI_setI, if_neg (by omega), hI_setI, if_neg (by omega), hI_setI, if_pos ⟨rfl, rfl⟩], fun b i n1 n2 => by rw [hI_setI, if_neg (by omega), hI_setI, if_neg (by omega), hI_setI, if_neg (by omega), hI_setI, if_neg (by omega), hI_setI, if_neg (by omega)]⟩
  rw [Kg _ (by omega), X171_40]
  simp only [bI_some, bV_some, cd_t, okO_setI, WJg w, c1, X171_43, c2, c3, c4, X171_51]
/-- only the reckoning's own cells have changed -/
def Jf (k k' : rz_H) : Prop := k'.2 = k.2 ∧ ∀ b i, ¬ (b = 95 ∧ (i = 1 ∨ i = 2)) → b ≠ 102 → hI k' b i = hI k b i
theorem Jf.refl (k : rz_H) : Jf k k := ⟨rfl, fun _ _ _ _ => rfl⟩
theorem Jf.trans {a b c : rz_H} (x : Jf a b) (y : Jf b c) : Jf a c := ⟨y.1.trans x.1, fun p i h1 h2 => (y.2 p i h1 h2).trans (x.2 p i h1 h2)⟩
theorem CR {rb dr : Nat} {jd : Option Nat} {h0 k0 : rz_H} {fa : Nat → Int32} {cs ms n st : Nat} {tp : Bool} {ty : Nat → List Bool} (w0 : Wf rb dr jd k0) (E0 : ∀ b i, rb ≤ b → b < rb + 6 → hI k0 b i = hI h0 b i) (hst : hI h0 rb 6 = nI st) (h256 : st ≤ 256) (hcs : cs + n < st) (hz : hI h0 (rb + 4) (cs + n) = 0) (lk : ∀ k, Jf k0 k → ∀ v, v < 9 → ∀ d, cW (d + 2) 173 [rz_r (some 95), rz_i (nI (ltr v))] k = some (rz_i (fa v), k)) (hn : ms + n ≤ 260) (tn : ty n = [tp]) (tl : ∀ j, j ≤ n → (ty j).length ≤ 60) (ops : ∀ j, j < n → OpR (hI h0 (rb + 4) (cs + j)) (hI h0 (rb + 5) (cs + j)) cs (hI h0 120 (ms + j)) ms n j ty) (d : Nat) : ∀ f j i p s k, n - j < f → j ≤ n → i ≤ j → p = (ty j).length → tyo (ty j) s → Jf k0 k → hI k 95 1 = nI p → hI k 95 2 = 0 → (∀ i, i < p → hI k 102 i = s i) → ∃ k', (∀ j1, rW (d + 3) 170 (10, (0, 0), [some (rz_r (some 95)), j1, some (rz_i (nI (cs + j))), some (rz_i (nI i))], [], k) = some (rz_i (evl (cdn h0) fa ms n f j p s), k')) ∧ Jf k0 k' := by
  have hW : isW rb := by rcases lw_rb w0 with ⟨e, -⟩ | ⟨e, -⟩ <;> subst e <;> unfold isW <;> omega
  have hr : rb = 82 ∨ rb = 96 := hW
  intro f
  induction f with
  | zero => intro j i p s k hf; omega
  | succ f ih =>
    intro j i p s k hf hj hij hp ht J h1 h2 hs
    have w : Wf rb dr jd k := w0.e J.1
    have hp60 := tl j hj
    have Ek : ∀ b i, rb ≤ b → b < rb + 6 → hI k b i = hI h0 b i := fun b i x y => (J.2 b i (by omega) (by omega)).trans (E0 b i x y)
    have s6 : hI k rb 6 = nI st := (Ek rb 6 (by omega) (by omega)).trans hst
    have c195 := C195 w hW
    rw [s6] at c195
    have c202 := C202 w hW s6 h256 (i := cs + j) (by omega)
    have c203 := C203 w hW s6 h256 (i := cs + j) (by omega)
    rw [Ek (rb + 4) (cs + j) (by omega) (by omega)] at c202
    rw [Ek (rb + 5) (cs + j) (by omega) (by omega)] at c203
    by_cases hjn : j = n
    · subst hjn
      rw [tn] at hp
      have hp : p = 1 := hp
      subst hp
      have c175 := C175 w (p := 0) h1 (by omega)
      refine ⟨setI k 95 1 (nI 0), fun j1 => ?_, J.1, fun b i x y => by rw [hI_setI, if_neg (by omega)]; exact J.2 b i x y⟩
      rw [evl_end (Nat.le_refl _), X170_10]
      rw [hz] at c202
      simp (disch := omega) only [↓cd_d, ↓irem_eq_mod, ↓ob_setI, ↓ob_chI, ↓ob_some, bI_some, bV_some, bR_some, bL_some, ob_some, cd_t, cd_f, okO_setI, okA_setI, okL_setI, aLen_setI, hR_setI, hI_setI, Bool.true_and, Bool.and_true, Bool.and_self, Option.isNone_some, Option.isSome_some, Option.isNone_none, Option.isSome_none, okO_chI, okA_chI, okL_chI, aLen_chI, hR_chI, ↓reduceIte, not_true_eq_false, not_false_eq_true, eq_self, c10, Nat.zero_add, nI_add, litA, litB, litM, nI_mul, nI_leI, nI_ltI, nI_eq, litLe, litLe2, litLt, litLt2, litEq, litEq2, in_nI, lit_in, nI_clamp, lit_cl, if_pos, if_neg, ↓WJb w, WJg w, WLw w hW, c195, X170_15, c202, X170_39, c175, hs]
    · have hlt : j < n := by omega
      have nxt : ∀ (kc vc x : Int32) (k2 : rz_H), hI h0 (rb + 4) (cs + j) = kc → ¬ kc = 0 → hI h0 (rb + 5) (cs + j) = vc → cW (d + 3) 171 [rz_r (some 95), rz_i (nI (cs + j)), rz_i kc, rz_i vc] k = some (rz_i x, k2) → k2.2 = k.2 → ∀ j1, rW (d + 3) 170 (10, (0, 0), [some (rz_r (some 95)), j1, some (rz_i (nI (cs + j))), some (rz_i (nI i))], [], k) = if hI k2 95 2 = 0 then rW (d + 3) 170 (10, (0, 0), [some (rz_r (some 95)), none, some (rz_i x), some (rz_i (nI (i + 1)))], [], k2) else some (rz_i 0, k2) := fun kc vc x k2 e1 e2 e3 e4 e5 j1 => by
        have w2 : Wf rb dr jd k2 := w.e e5
        rw [e1] at c202
        rw [e3] at c203
        rw [X170_10]
        simp (disch := omega) only [↓cd_d, ↓irem_eq_mod, ↓ob_setI, ↓ob_chI, ↓ob_some, bI_some, bV_some, bR_some, bL_some, ob_some, cd_t, cd_f, okO_setI, okA_setI, okL_setI, aLen_setI, hR_setI, hI_setI, Bool.true_and, Bool.and_true, Bool.and_self, Option.isNone_some, Option.isSome_some, Option.isNone_none, Option.isSome_none, okO_chI, okA_chI, okL_chI, aLen_chI, hR_chI, ↓reduceIte, not_true_eq_false, not_false_eq_true, eq_self, c10, Nat.zero_add, nI_add, litA, litB, litM, nI_mul, nI_leI, nI_ltI, nI_eq, litLe, litLe2, litLt, litLt2, litEq, litEq2, in_nI, lit_in, nI_clamp, lit_cl, if_pos, if_neg, ↓WJb w, WJg w, WLw w hW, c195, X170_15, c202, e2, X170_20, c203, e4, X170_32, WJg w2]
        by_cases c : hI k2 95 2 = 0
        · simp (disch := omega) only [↓cd_d, ↓irem_eq_mod, ↓ob_setI, ↓ob_chI, ↓ob_some, bI_some, bV_some, bR_some, bL_some, ob_some, cd_t, cd_f, okO_setI, okA_setI, okL_setI, aLen_setI, hR_setI, hI_setI, Bool.true_and, Bool.and_true, Bool.and_self, Option.isNone_some, Option.isSome_some, Option.isNone_none, Option.isSome_none, okO_chI, okA_chI, okL_chI, aLen_chI, hR_chI, ↓reduceIte, not_true_eq_false, not_false_eq_true, eq_self, c10, Nat.zero_add, nI_add, litA, litB, litM, nI_mul, nI_leI, nI_ltI, nI_eq, litLe, litLe2, litLt, litLt2, litEq, litEq2, in_nI, lit_in, nI_clamp, lit_cl, if_pos, if_neg, c, X170_37, X170_38]
        · simp (disch := omega) only [↓cd_d, ↓irem_eq_mod, ↓ob_setI, ↓ob_chI, ↓ob_some, bI_some, bV_some, bR_some, bL_some, ob_some, cd_t, cd_f, okO_setI, okA_setI, okL_setI, aLen_setI, hR_setI, hI_setI, Bool.true_and, Bool.and_true, Bool.and_self, Option.isNone_some, Option.isSome_some, Option.isNone_none, Option.isSome_none, okO_chI, okA_chI, okL_chI, aLen_chI, hR_chI, ↓reduceIte, not_true_eq_false, not_false_eq_true, eq_self, c10, Nat.zero_add, nI_add, litA, litB, litM, nI_mul, nI_leI, nI_ltI, nI_eq, litLe, litLe2, litLt, litLt2, litEq, litEq2, in_nI, lit_in, nI_clamp, lit_cl, if_pos, if_neg, c, X170_35]
      rcases ops j hlt with ⟨v, a1, a2, a3, a4, a5⟩ | ⟨v, a1, a2, a3, a4, a5⟩ | ⟨g, a, b, r, a1, a2, a3, a4, a5⟩ | ⟨r, a1, a2, a3, a4⟩ | ⟨t, r, a1, a2, a3, a4, a5, a6, a7, a8⟩ | ⟨t, r, a1, a2, a3, a4, a5, a6, a7, a8⟩
      · have hc : cdn h0 (ms + j) = v := by unfold cdn; rw [a4, nI_clamp (by omega)]
        have g1 := D1 w h1 (by omega) (d + 1) (nI (cs + j)) (nI v)
        obtain ⟨k', e, q⟩ := ih (j + 1) (i + 1) (p + 1) (udx s p (nI v)) (setI (setI k 102 p (nI v)) 95 1 (nI (p + 1))) (by omega) (by omega) (by omega) (by rw [a5, hp]; rfl) (by rw [a5, hp]; exact tyo_ps _ _ _ _ ht (fun q => absurd q (by simp))) ⟨J.1, fun b i x y => by rw [hI_setI, if_neg (by omega), hI_setI, if_neg (by omega)]; exact J.2 b i x y⟩ (by rw [hI_setI, if_pos ⟨rfl, rfl⟩]) (by rw [hI_setI, if_neg (by omega), hI_setI, if_neg (by omega)]; exact h2) (fun i hi => by
          rw [hI_setI, if_neg (by omega), hI_setI]
          by_cases c : i = p
          · subst c; rw [if_pos ⟨rfl, rfl⟩, udx_eq]
          · rw [if_neg (fun q => c q.2), udx_ne _ _ c]; exact hs i (by omega))
        refine ⟨k', fun j1 => ?_, q⟩
        rw [evl_num hlt hc (by omega), nxt 1 (nI v) _ _ a2 (by decide) a3 g1 rfl j1, if_pos (by rw [hI_setI, if_neg (by omega), hI_setI, if_neg (by omega)]; exact h2), nI_1]
        exact e none
      · have hc : cdn h0 (ms + j) = 1048576 + v := by unfold cdn; rw [a4, nI_clamp (by omega)]
        have g1 := D2 w h1 (by omega) d (nI (cs + j)) (nI (ltr v)) (fa v) (lk k J v a1 d)
        obtain ⟨k', e, q⟩ := ih (j + 1) (i + 1) (p + 1) (udx s p (fa v)) (setI (setI k 102 p (fa v)) 95 1 (nI (p + 1))) (by omega) (by omega) (by omega) (by rw [a5, hp]; rfl) (by rw [a5, hp]; exact tyo_ps _ _ _ _ ht (fun q => absurd q (by simp))) ⟨J.1, fun b i x y => by rw [hI_setI, if_neg (by omega), hI_setI, if_neg (by omega)]; exact J.2 b i x y⟩ (by rw [hI_setI, if_pos ⟨rfl, rfl⟩]) (by rw [hI_setI, if_neg (by omega), hI_setI, if_neg (by omega)]; exact h2) (fun i hi => by
          rw [hI_setI, if_neg (by omega), hI_setI]
          by_cases c : i = p
          · subst c; rw [if_pos ⟨rfl, rfl⟩, udx_eq]
          · rw [if_neg (fun q => c q.2), udx_ne _ _ c]; exact hs i (by omega))
        refine ⟨k', fun j1 => ?_, q⟩
        rw [evl_let hlt hc (by omega), nxt 2 (nI (ltr v)) _ _ a2 (by decide) a3 g1 rfl j1, if_pos (by rw [hI_setI, if_neg (by omega), hI_setI, if_neg (by omega)]; exact h2), nI_1]
        exact e none
      · have hc : cdn h0 (ms + j) = 1048576 * (2 + g) := by unfold cdn; rw [a3, nI_clamp (by omega)]
        rw [a4] at hp hp60 ht
        have hp : p = r.length + 2 := hp
        have hp60 : r.length + 2 ≤ 60 := hp60
        have htr := ht.2.2
        have key : ∀ m, r.length = m → m + 2 ≤ 60 → p = m + 2 → ∃ k', (∀ j1, rW (d + 3) 170 (10, (0, 0), [some (rz_r (some 95)), j1, some (rz_i (nI (cs + j))), some (rz_i (nI i))], [], k) = some (rz_i (evl (cdn h0) fa ms n (f + 1) j p s), k')) ∧ Jf k0 k' := by
          intro m hm hm60 hpm
          subst hpm
          have s1 := hs (m + 1) (by omega)
          have s2 := hs m (by omega)
          have kz : ∀ g, g < 8 → ¬ nI (sgn g) = 0 := by decide
          by_cases c : (g = 3 ∨ g = 4) ∧ s (m + 1) = 0
          · obtain ⟨k2, e1, e2, e3, e4⟩ := Dz w h1 (by omega) c.1 (s1.trans c.2) (d + 1) (nI (cs + j)) (hI h0 (rb + 5) (cs + j))
            refine ⟨k2, fun j1 => ?_, e2.trans J.1, fun b i x y => (e4 b i x y).trans (J.2 b i x y)⟩
            rw [evl_op hlt a1 hc, if_pos c, nxt (nI (sgn g)) _ _ _ a2 (kz g a1) rfl e1 e2 j1, e3, if_neg (by decide)]
          · obtain ⟨k2, e1, e2, e3, e4, e5⟩ := Dg w h1 (by omega) a1 (by rw [s1]; exact c) (d + 1) (nI (cs + j)) (hI h0 (rb + 5) (cs + j))
            rw [s1, s2] at e4
            have e6 : hI k2 95 2 = 0 := (e5 95 2 (by omega) (by omega)).trans h2
            obtain ⟨k', e, q⟩ := ih (j + 1) (i + 1) (m + 1) (udx s m (rck (2 + g) (s m) (s (m + 1)))) k2 (by omega) (by omega) (by omega) (by rw [a5, ← hm]; rfl) (by rw [a5, ← hm]; exact tyo_ps _ _ _ _ htr (fun q => rck_01 (of_decide_eq_true q) _ _)) ⟨e2.trans J.1, fun b i x y => (e5 b i (by omega) (by omega)).trans (J.2 b i x y)⟩ e3 e6 (fun i hi => by
              by_cases c : i = m
              · subst c; rw [e4, udx_eq]
              · rw [e5 102 i (by omega) (by omega), udx_ne _ _ c]; exact hs i (by omega))
            refine ⟨k', fun j1 => ?_, q⟩
            rw [evl_op hlt a1 hc, if_neg c, nxt (nI (sgn g)) _ _ _ a2 (kz g a1) rfl e1 e2 j1, if_pos e6, nI_1]
            exact e none
        exact key r.length rfl hp60 hp
      · have hc : cdn h0 (ms + j) = 1048576 * 10 := by unfold cdn; rw [a2, nI_clamp (by omega)]
        rw [a3] at hp hp60 ht
        have hp : p = r.length + 1 := hp
        have hp60 : r.length + 1 ≤ 60 := hp60
        have key : ∀ m, r.length = m → m + 1 ≤ 60 → p = m + 1 → ∃ k', (∀ j1, rW (d + 3) 170 (10, (0, 0), [some (rz_r (some 95)), j1, some (rz_i (nI (cs + j))), some (rz_i (nI i))], [], k) = some (rz_i (evl (cdn h0) fa ms n (f + 1) j p s), k')) ∧ Jf k0 k' := by
          intro m hm hm60 hpm
          subst hpm
          have s2 := hs m (by omega)
          have h01 : s m = 0 ∨ s m = 1 := by rw [← hm]; exact ht.1 rfl
          obtain ⟨k2, e1, e2, e3, e4, e5⟩ := D3 w h1 (by omega) (by rw [s2]; exact h01) (d + 1) (nI (cs + j)) (hI h0 (rb + 5) (cs + j))
          rw [s2] at e4
          have e6 : hI k2 95 2 = 0 := (e5 95 2 (by omega) (by omega)).trans h2
          obtain ⟨k', e, q⟩ := ih (j + 1) (i + 1) (m + 1) (udx s m (1 - s m)) k2 (by omega) (by omega) (by omega) (by rw [a4, ← hm]; rfl) (by rw [a4, ← hm]; exact tyo_ps _ _ _ _ ht.2 (fun _ => not_01 (ht.1 rfl))) ⟨e2.trans J.1, fun b i x y => (e5 b i (by omega) (by omega)).trans (J.2 b i x y)⟩ e3 e6 (fun i hi => by
            by_cases c : i = m
            · subst c; rw [e4, udx_eq]
            · rw [e5 102 i (by omega) (by omega), udx_ne _ _ c]; exact hs i (by omega))
          refine ⟨k', fun j1 => ?_, q⟩
          rw [evl_not hlt hc, nxt 3 _ _ _ a1 (by decide) rfl e1 e2 j1, if_pos e6, nI_1]
          exact e none
        exact key r.length rfl hp60 hp
      · have hc : cdn h0 (ms + j) = 1048576 * 11 + (ms + t) := by unfold cdn; rw [a3, nI_clamp (by omega)]
        have hp' := hp
        have ht' := ht
        rw [a4] at hp hp60 ht
        have hp : p = r.length + 1 := hp
        have hp60 : r.length + 1 ≤ 60 := hp60
        have key : ∀ m, r.length = m → m + 1 ≤ 60 → p = m + 1 → ∃ k', (∀ j1, rW (d + 3) 170 (10, (0, 0), [some (rz_r (some 95)), j1, some (rz_i (nI (cs + j))), some (rz_i (nI i))], [], k) = some (rz_i (evl (cdn h0) fa ms n (f + 1) j p s), k')) ∧ Jf k0 k' := by
          intro m hm hm60 hpm
          subst hpm
          have s2 := hs m (by omega)
          have g1 := D5 w h1 (by omega) (d + 1) (nI (cs + j)) (nI (cs + t))
          rw [s2] at g1
          by_cases c : s m = 0
          · rw [if_pos c] at g1
            obtain ⟨k', e, q⟩ := ih t (i + 1) (m + 1) s k (by omega) a7 (by omega) (by rw [a8]; exact hp') (by rw [a8]; exact ht') J h1 h2 hs
            refine ⟨k', fun j1 => ?_, q⟩
            rw [evl_jn hlt hc (by omega), if_pos c, nxt 5 _ _ _ a1 (by decide) a2 g1 rfl j1, if_pos h2]
            exact e none
          · rw [if_neg c] at g1
            have e6 : hI (setI k 95 1 (nI m)) 95 2 = 0 := by rw [hI_setI, if_neg (by omega)]; exact h2
            obtain ⟨k', e, q⟩ := ih (j + 1) (i + 1) m s (setI k 95 1 (nI m)) (by omega) (by omega) (by omega) (by rw [a5, hm]) (by rw [a5]; exact ht.2) ⟨J.1, fun b i x y => by rw [hI_setI, if_neg (by omega)]; exact J.2 b i x y⟩ (by rw [hI_setI, if_pos ⟨rfl, rfl⟩]) e6 (fun i hi => by rw [hI_setI, if_neg (by omega)]; exact hs i (by omega))
            refine ⟨k', fun j1 => ?_, q⟩
            rw [evl_jn hlt hc (by omega), if_neg c, nxt 5 _ _ _ a1 (by decide) a2 g1 rfl j1, if_pos e6, nI_1]
            exact e none
        exact key r.length rfl hp60 hp
      · have hc : cdn h0 (ms + j) = 1048576 * 12 + (ms + t) := by unfold cdn; rw [a3, nI_clamp (by omega)]
        have hp' := hp
        have ht' := ht
        rw [a4] at hp hp60 ht
        have hp : p = r.length + 1 := hp
        have hp60 : r.length + 1 ≤ 60 := hp60
        have key : ∀ m, r.length = m → m + 1 ≤ 60 → p = m + 1 → ∃ k', (∀ j1, rW (d + 3) 170 (10, (0, 0), [some (rz_r (some 95)), j1, some (rz_i (nI (cs + j))), some (rz_i (nI i))], [], k) = some (rz_i (evl (cdn h0) fa ms n (f + 1) j p s), k')) ∧ Jf k0 k' := by
          intro m hm hm60 hpm
          subst hpm
          have s2 := hs m (by omega)
          have h01 : s m = 0 ∨ s m = 1 := by rw [← hm]; exact ht.1 rfl
          have g1 := D4 w h1 (by omega) (d + 1) (nI (cs + j)) (nI (cs + t))
          rw [s2] at g1
          by_cases c : s m = 1
          · rw [if_neg (by rw [c]; decide)] at g1
            obtain ⟨k', e, q⟩ := ih t (i + 1) (m + 1) s k (by omega) a7 (by omega) (by rw [a8]; exact hp') (by rw [a8]; exact ht') J h1 h2 hs
            refine ⟨k', fun j1 => ?_, q⟩
            rw [evl_jh hlt hc (by omega), if_pos c, nxt 4 _ _ _ a1 (by decide) a2 g1 rfl j1, if_pos h2]
            exact e none
          · rw [if_pos (h01.resolve_right c)] at g1
            have e6 : hI (setI k 95 1 (nI m)) 95 2 = 0 := by rw [hI_setI, if_neg (by omega)]; exact h2
            obtain ⟨k', e, q⟩ := ih (j + 1) (i + 1) m s (setI k 95 1 (nI m)) (by omega) (by omega) (by omega) (by rw [a5, hm]) (by rw [a5]; exact ht.2) ⟨J.1, fun b i x y => by rw [hI_setI, if_neg (by omega)]; exact J.2 b i x y⟩ (by rw [hI_setI, if_pos ⟨rfl, rfl⟩]) e6 (fun i hi => by rw [hI_setI, if_neg (by omega)]; exact hs i (by omega))
            refine ⟨k', fun j1 => ?_, q⟩
            rw [evl_jh hlt hc (by omega), if_neg c, nxt 4 _ _ _ a1 (by decide) a2 g1 rfl j1, if_pos e6, nI_1]
            exact e none
        exact key r.length rfl hp60 hp
theorem C170 {rb dr : Nat} {jd : Option Nat} {h0 k0 : rz_H} {fa : Nat → Int32} {cs ms n st : Nat} {tp : Bool} (w0 : Wf rb dr jd k0) (E0 : ∀ b i, rb ≤ b → b < rb + 6 → hI k0 b i = hI h0 b i) (hst : hI h0 rb 6 = nI st) (h256 : st ≤ 256) (hcs : cs + n < st) (co : CoRel h0 rb cs ms n tp) (lk : ∀ k, Jf k0 k → ∀ v, v < 9 → ∀ d, cW (d + 2) 173 [rz_r (some 95), rz_i (nI (ltr v))] k = some (rz_i (fa v), k)) (d : Nat) : ∃ k', cW (d + 4) 170 [rz_r (some 95), rz_i (nI cs)] k0 = some (rz_i (evq h0 fa ms n), k') ∧ Jf k0 k' := by
  obtain ⟨c1, c2, c3, ty, t0, tn, tl, ops⟩ := co
  have d1 : (decide ((0 : Int32) = 0) || decide ((0 : Int32) = 1)) = true := rfl
  obtain ⟨k', e, q⟩ := CR w0 E0 hst h256 hcs c3 lk c2 tn tl ops d (n + 1) 0 0 0 (fun _ => 0) (setI (setI k0 95 1 0) 95 2 0) (by omega) (by omega) (by omega) (by rw [t0]; rfl) (by rw [t0]; trivial) ⟨rfl, fun b i x y => by rw [hI_setI, if_neg (by omega), hI_setI, if_neg (by omega)]⟩ (by rw [hI_setI, if_neg (by omega), hI_setI, if_pos ⟨rfl, rfl⟩]; rfl) (by rw [hI_setI, if_pos ⟨rfl, rfl⟩]) (fun i hi => absurd hi (by omega))
  refine ⟨k', ?_, q⟩
  rw [X170]
  simp only [bI_some, bV_some, bR_some, bL_some, ob_some, cd_t, cd_f, cd_d, okO_setI, okA_setI, okL_setI, aLen_setI, hR_setI, hI_setI, Bool.true_and, Bool.and_true, Bool.and_self, Option.isNone_some, Option.isSome_some, Option.isNone_none, Option.isSome_none, okO_chI, okA_chI, okL_chI, aLen_chI, hR_chI, ↓reduceIte, not_true_eq_false, not_false_eq_true, eq_self, c10, WJg w0, X170_3, d1, X170_6, X170_8]
  exact e _
