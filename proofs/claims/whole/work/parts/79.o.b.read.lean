/-! readers: what both sides do with a text -/
def pkI (t : Nat → Nat) (L p : Nat) : Int32 := if p < L then nI (t p) else -1
theorem pkk_in {t : Nat → Nat} {L p : Nat} (h : p < L) : pkI t L p = nI (t p) := if_pos h
theorem pkk_out {t : Nat → Nat} {L p : Nat} (h : ¬ p < L) : pkI t L p = -1 := if_neg h
theorem m1_lt (m : Nat) (hm : m < 2 ^ 31) : (-1 : Int32) < nI m := Int32.lt_of_lt_of_le (by decide) (nI_pos' hm)
theorem pkk_eq {t : Nat → Nat} {L p m : Nat} (hb : p < L → t p < 256) (hm : m < 1000) : pkI t L p = nI m ↔ p < L ∧ t p = m := by
  by_cases h : p < L
  · have := hb h
    rw [pkk_in h, nI_eq (by omega) (by omega)]
    exact ⟨fun e => ⟨h, e⟩, fun e => e.2⟩
  · rw [pkk_out h]
    exact ⟨fun e => absurd e.symm (ne_m1 hm), fun e => absurd e.1 h⟩
theorem pkk_lt {t : Nat → Nat} {L p m : Nat} (hb : p < L → t p < 256) (hm : m < 1000) : pkI t L p < nI m ↔ (p < L → t p < m) := by
  by_cases h : p < L
  · have := hb h
    rw [pkk_in h, nI_ltI (by omega) (by omega)]
    exact ⟨fun e _ => e, fun e => e h⟩
  · rw [pkk_out h]
    exact ⟨fun _ q => absurd q h, fun _ => m1_lt m (by omega)⟩
theorem pkk_gt {t : Nat → Nat} {L p m : Nat} (hb : p < L → t p < 256) (hm : m < 1000) : nI m < pkI t L p ↔ p < L ∧ m < t p := by
  by_cases h : p < L
  · have := hb h
    rw [pkk_in h, nI_ltI (by omega) (by omega)]
    exact ⟨fun e => ⟨h, e⟩, fun e => e.2⟩
  · rw [pkk_out h]
    exact ⟨fun e => absurd (Int32.lt_trans e (m1_lt m (by omega))) Int32.lt_irrefl, fun e => absurd e.1 h⟩
def erI (f p : Nat) : Int32 := (-1000 : Int32) * nI f - nI p
/-! the class's readers -/
def isR (r : Nat) : Prop := r = 81 ∨ r = 88 ∨ r = 90
theorem WRd {rb dr : Nat} {jd : Option Nat} {h : rz_H} (w : Wf rb dr jd h) {r : Nat} (hr : isR r) : okO h r [1, 5, 6] = true ∧ ∀ f : Nat → Option rz_Res, Option.bind (hR h r 0) f = f 1 := by
  rcases hr with rfl | rfl | rfl
  · exact ⟨(WLr w).2.1, (WCb w).2.2.2.2.2.2.2.2.2.2.1⟩
  · exact ⟨(WDr w).2.1, obR (WDr w).2.2.1⟩
  · exact ⟨(WOr w).2.1, obR (WOr w).2.2.1⟩
theorem R227 {rb dr : Nat} {jd : Option Nat} {h : rz_H} (w : Wf rb dr jd h) {r : Nat} (hr : isR r) {N : Nat} {t : Nat → Nat} (T : Tq h N t) {L p : Nat} (hL : L ≤ N) (e1 : hI h r 1 = nI L) (e2 : hI h r 2 = nI p) (hp : p < 1000) (e3 : hI h r 3 = 0) (d : Nat) : cW (d + 2) 227 [rz_r (some r)] h = some (rz_i (pkI t L p), h) := by
  have hN := T.1.1
  have ok := (WRd w hr).1
  rw [E227]
  by_cases c : p < L
  · have at1 := T269 w T (i := p) (by omega)
    rw [pkk_in c]
    simp (disch := omega) only [↓cd_d, ↓irem_eq_mod, ↓ob_setI, ↓ob_chI, ↓ob_some, bI_some, bV_some, bR_some, bL_some, ob_some, cd_t, cd_f, okO_setI, okA_setI, okL_setI, aLen_setI, hR_setI, hI_setI, Bool.true_and, Bool.and_true, Bool.and_self, Option.isNone_some, Option.isSome_some, Option.isNone_none, Option.isSome_none, okO_chI, okA_chI, okL_chI, aLen_chI, hR_chI, ↓reduceIte, not_true_eq_false, not_false_eq_true, eq_self, c10, Nat.zero_add, nI_add, litA, litB, litM, nI_mul, nI_leI, nI_ltI, nI_eq, litLe, litLe2, litLt, litLt2, litEq, litEq2, in_nI, lit_in, nI_clamp, lit_cl, if_pos, if_neg, ↓(WRd w hr).2, ok, WTp w, e1, e2, e3, at1]
  · rw [pkk_out c]
    simp (disch := omega) only [↓cd_d, ↓irem_eq_mod, ↓ob_setI, ↓ob_chI, ↓ob_some, bI_some, bV_some, bR_some, bL_some, ob_some, cd_t, cd_f, okO_setI, okA_setI, okL_setI, aLen_setI, hR_setI, hI_setI, Bool.true_and, Bool.and_true, Bool.and_self, Option.isNone_some, Option.isSome_some, Option.isNone_none, Option.isSome_none, okO_chI, okA_chI, okL_chI, aLen_chI, hR_chI, ↓reduceIte, not_true_eq_false, not_false_eq_true, eq_self, c10, Nat.zero_add, nI_add, litA, litB, litM, nI_mul, nI_leI, nI_ltI, nI_eq, litLe, litLe2, litLt, litLt2, litEq, litEq2, in_nI, lit_in, nI_clamp, lit_cl, if_pos, if_neg, ok, e1, e2, e3]
theorem R227e {rb dr : Nat} {jd : Option Nat} {h : rz_H} (w : Wf rb dr jd h) {r : Nat} (hr : isR r) (e3 : ¬ hI h r 3 = 0) (d : Nat) : cW (d + 1) 227 [rz_r (some r)] h = some (rz_i (-1), h) := by
  have ok := (WRd w hr).1
  rw [E227]
  simp only [bI_some, bV_some, bR_some, bL_some, ob_some, cd_t, cd_f, cd_d, okO_setI, okA_setI, okL_setI, aLen_setI, hR_setI, hI_setI, Bool.true_and, Bool.and_true, Bool.and_self, Option.isNone_some, Option.isSome_some, Option.isNone_none, Option.isSome_none, okO_chI, okA_chI, okL_chI, aLen_chI, hR_chI, ↓reduceIte, not_true_eq_false, not_false_eq_true, eq_self, c10, ok, e3]
theorem R228 {rb dr : Nat} {jd : Option Nat} {h : rz_H} (w : Wf rb dr jd h) {r : Nat} (hr : isR r) (d : Nat) : cW (d + 1) 228 [rz_r (some r)] h = some (rz_i (hI h r 2), h) := by
  have ok := (WRd w hr).1
  rw [E228]
  simp only [bI_some, bV_some, bR_some, bL_some, ob_some, cd_t, cd_f, cd_d, okO_setI, okA_setI, okL_setI, aLen_setI, hR_setI, hI_setI, Bool.true_and, Bool.and_true, Bool.and_self, Option.isNone_some, Option.isSome_some, Option.isNone_none, Option.isSome_none, okO_chI, okA_chI, okL_chI, aLen_chI, hR_chI, ↓reduceIte, not_true_eq_false, not_false_eq_true, eq_self, c10, ok]
theorem R229 {rb dr : Nat} {jd : Option Nat} {h : rz_H} (w : Wf rb dr jd h) {r : Nat} (hr : isR r) {p : Nat} (e2 : hI h r 2 = nI p) (d : Nat) : cW (d + 1) 229 [rz_r (some r)] h = some (rz_i 0, setI h r 2 (nI (p + 1))) := by
  have ok := (WRd w hr).1
  rw [E229]
  simp only [bI_some, bV_some, bR_some, bL_some, ob_some, cd_t, cd_f, cd_d, okO_setI, okA_setI, okL_setI, aLen_setI, hR_setI, hI_setI, Bool.true_and, Bool.and_true, Bool.and_self, Option.isNone_some, Option.isSome_some, Option.isNone_none, Option.isSome_none, okO_chI, okA_chI, okL_chI, aLen_chI, hR_chI, ↓reduceIte, not_true_eq_false, not_false_eq_true, eq_self, c10, ok, e2, nI_1]
theorem R230 {rb dr : Nat} {jd : Option Nat} {h : rz_H} (w : Wf rb dr jd h) {r : Nat} (hr : isR r) (e3 : hI h r 3 = 0) (d : Nat) : cW (d + 1) 230 [rz_r (some r)] h = some (rz_i 1, h) := by
  have ok := (WRd w hr).1
  rw [E230]
  simp only [bI_some, bV_some, bR_some, bL_some, ob_some, cd_t, cd_f, cd_d, okO_setI, okA_setI, okL_setI, aLen_setI, hR_setI, hI_setI, Bool.true_and, Bool.and_true, Bool.and_self, Option.isNone_some, Option.isSome_some, Option.isNone_none, Option.isSome_none, okO_chI, okA_chI, okL_chI, aLen_chI, hR_chI, ↓reduceIte, not_true_eq_false, not_false_eq_true, eq_self, c10, ok, e3]
theorem R230e {rb dr : Nat} {jd : Option Nat} {h : rz_H} (w : Wf rb dr jd h) {r : Nat} (hr : isR r) (e3 : ¬ hI h r 3 = 0) (d : Nat) : cW (d + 1) 230 [rz_r (some r)] h = some (rz_i 0, h) := by
  have ok := (WRd w hr).1
  rw [E230]
  simp only [bI_some, bV_some, bR_some, bL_some, ob_some, cd_t, cd_f, cd_d, okO_setI, okA_setI, okL_setI, aLen_setI, hR_setI, hI_setI, Bool.true_and, Bool.and_true, Bool.and_self, Option.isNone_some, Option.isSome_some, Option.isNone_none, Option.isSome_none, okO_chI, okA_chI, okL_chI, aLen_chI, hR_chI, ↓reduceIte, not_true_eq_false, not_false_eq_true, eq_self, c10, ok, e3]
theorem R231 {rb dr : Nat} {jd : Option Nat} {h : rz_H} (w : Wf rb dr jd h) {r : Nat} (hr : isR r) (e3 : hI h r 3 = 0) (d : Nat) (x y : Int32) : cW (d + 1) 231 [rz_r (some r), rz_i x, rz_i y] h = some (rz_i 0, setI (setI h r 3 x) r 4 y) := by
  have ok := (WRd w hr).1
  rw [E231]
  simp only [bI_some, bV_some, bR_some, bL_some, ob_some, cd_t, cd_f, cd_d, okO_setI, okA_setI, okL_setI, aLen_setI, hR_setI, hI_setI, Bool.true_and, Bool.and_true, Bool.and_self, Option.isNone_some, Option.isSome_some, Option.isNone_none, Option.isSome_none, okO_chI, okA_chI, okL_chI, aLen_chI, hR_chI, ↓reduceIte, not_true_eq_false, not_false_eq_true, eq_self, c10, ok, e3]
theorem R231e {rb dr : Nat} {jd : Option Nat} {h : rz_H} (w : Wf rb dr jd h) {r : Nat} (hr : isR r) (e3 : ¬ hI h r 3 = 0) (d : Nat) (x y : Int32) : cW (d + 1) 231 [rz_r (some r), rz_i x, rz_i y] h = some (rz_i 0, h) := by
  have ok := (WRd w hr).1
  rw [E231]
  simp only [bI_some, bV_some, bR_some, bL_some, ob_some, cd_t, cd_f, cd_d, okO_setI, okA_setI, okL_setI, aLen_setI, hR_setI, hI_setI, Bool.true_and, Bool.and_true, Bool.and_self, Option.isNone_some, Option.isSome_some, Option.isNone_none, Option.isSome_none, okO_chI, okA_chI, okL_chI, aLen_chI, hR_chI, ↓reduceIte, not_true_eq_false, not_false_eq_true, eq_self, c10, ok, e3]
theorem R232 {rb dr : Nat} {jd : Option Nat} {h : rz_H} (w : Wf rb dr jd h) {r : Nat} (hr : isR r) {p : Nat} (e2 : hI h r 2 = nI p) (e3 : hI h r 3 = 0) (d : Nat) : cW (d + 2) 232 [rz_r (some r)] h = some (rz_i 0, setI (setI h r 3 1) r 4 (nI p)) := by
  have ok := (WRd w hr).1
  rw [E232]
  simp only [bI_some, bV_some, bR_some, bL_some, ob_some, cd_t, cd_f, cd_d, okO_setI, okA_setI, okL_setI, aLen_setI, hR_setI, hI_setI, Bool.true_and, Bool.and_true, Bool.and_self, Option.isNone_some, Option.isSome_some, Option.isNone_none, Option.isSome_none, okO_chI, okA_chI, okL_chI, aLen_chI, hR_chI, ↓reduceIte, not_true_eq_false, not_false_eq_true, eq_self, c10, ok, e2, R231 w hr e3]
theorem R232e {rb dr : Nat} {jd : Option Nat} {h : rz_H} (w : Wf rb dr jd h) {r : Nat} (hr : isR r) (e3 : ¬ hI h r 3 = 0) (d : Nat) : cW (d + 2) 232 [rz_r (some r)] h = some (rz_i 0, h) := by
  have ok := (WRd w hr).1
  rw [E232]
  simp only [bI_some, bV_some, bR_some, bL_some, ob_some, cd_t, cd_f, cd_d, okO_setI, okA_setI, okL_setI, aLen_setI, hR_setI, hI_setI, Bool.true_and, Bool.and_true, Bool.and_self, Option.isNone_some, Option.isSome_some, Option.isNone_none, Option.isSome_none, okO_chI, okA_chI, okL_chI, aLen_chI, hR_chI, ↓reduceIte, not_true_eq_false, not_false_eq_true, eq_self, c10, ok, R231e w hr e3]
theorem R233e {rb dr : Nat} {jd : Option Nat} {h : rz_H} (w : Wf rb dr jd h) {r : Nat} (hr : isR r) (e3 : ¬ hI h r 3 = 0) (d : Nat) {m : Nat} (hm : m < 1000) : cW (d + 3) 233 [rz_r (some r), rz_i (nI m)] h = some (rz_i 0, h) := by
  have ok := (WRd w hr).1
  have n : ¬ (-1 : Int32) = nI m := fun q => ne_m1 hm q.symm
  rw [E233]
  simp only [bI_some, bV_some, bR_some, bL_some, ob_some, cd_t, cd_f, cd_d, okO_setI, okA_setI, okL_setI, aLen_setI, hR_setI, hI_setI, Bool.true_and, Bool.and_true, Bool.and_self, Option.isNone_some, Option.isSome_some, Option.isNone_none, Option.isSome_none, okO_chI, okA_chI, okL_chI, aLen_chI, hR_chI, ↓reduceIte, not_true_eq_false, not_false_eq_true, eq_self, c10, ok, R227e w hr e3, n, R232e w hr e3]
theorem R233 {rb dr : Nat} {jd : Option Nat} {h : rz_H} (w : Wf rb dr jd h) {r : Nat} (hr : isR r) {N : Nat} {t : Nat → Nat} (T : Tq h N t) {L p : Nat} (hL : L ≤ N) (e1 : hI h r 1 = nI L) (e2 : hI h r 2 = nI p) (hp : p < 1000) (e3 : hI h r 3 = 0) {m : Nat} (hm : m < 1000) (d : Nat) : cW (d + 3) 233 [rz_r (some r), rz_i (nI m)] h = if p < L ∧ t p = m then some (rz_i 0, setI h r 2 (nI (p + 1))) else some (rz_i 0, setI (setI h r 3 1) r 4 (nI p)) := by
  have ok := (WRd w hr).1
  have pe := pkk_eq (t := t) (L := L) (p := p) (m := m) (fun q => (T.1.2 p (by omega)).1) hm
  rw [E233]
  by_cases c : p < L ∧ t p = m
  · have pe := pe.mpr c
    rw [if_pos c]
    simp only [bI_some, bV_some, bR_some, bL_some, ob_some, cd_t, cd_f, cd_d, okO_setI, okA_setI, okL_setI, aLen_setI, hR_setI, hI_setI, Bool.true_and, Bool.and_true, Bool.and_self, Option.isNone_some, Option.isSome_some, Option.isNone_none, Option.isSome_none, okO_chI, okA_chI, okL_chI, aLen_chI, hR_chI, ↓reduceIte, not_true_eq_false, not_false_eq_true, eq_self, c10, ok, R227 w hr T hL e1 e2 hp e3, pe, R229 w hr e2]
  · have pe : ¬ pkI t L p = nI m := fun q => c (pe.mp q)
    rw [if_neg c]
    simp only [bI_some, bV_some, bR_some, bL_some, ob_some, cd_t, cd_f, cd_d, okO_setI, okA_setI, okL_setI, aLen_setI, hR_setI, hI_setI, Bool.true_and, Bool.and_true, Bool.and_self, Option.isNone_some, Option.isSome_some, Option.isNone_none, Option.isSome_none, okO_chI, okA_chI, okL_chI, aLen_chI, hR_chI, ↓reduceIte, not_true_eq_false, not_false_eq_true, eq_self, c10, ok, R227 w hr T hL e1 e2 hp e3, pe, R232 w hr e2 e3]
theorem R234 {rb dr : Nat} {jd : Option Nat} {h : rz_H} (w : Wf rb dr jd h) {r : Nat} (hr : isR r) (e3 : hI h r 3 = 0) (x : Int32) (d : Nat) : cW (d + 1) 234 [rz_r (some r), rz_i x] h = some (rz_i x, h) := by
  have ok := (WRd w hr).1
  rw [E234]
  simp only [bI_some, bV_some, bR_some, bL_some, ob_some, cd_t, cd_f, cd_d, okO_setI, okA_setI, okL_setI, aLen_setI, hR_setI, hI_setI, Bool.true_and, Bool.and_true, Bool.and_self, Option.isNone_some, Option.isSome_some, Option.isNone_none, Option.isSome_none, okO_chI, okA_chI, okL_chI, aLen_chI, hR_chI, ↓reduceIte, not_true_eq_false, not_false_eq_true, eq_self, c10, ok, e3]
theorem R234e {rb dr : Nat} {jd : Option Nat} {h : rz_H} (w : Wf rb dr jd h) {r : Nat} (hr : isR r) {f fp : Nat} (e3 : hI h r 3 = nI f) (h0 : 0 < f) (hf : f < 10) (e4 : hI h r 4 = nI fp) (x : Int32) (d : Nat) : cW (d + 1) 234 [rz_r (some r), rz_i x] h = some (rz_i (erI f fp), h) := by
  have ok := (WRd w hr).1
  have n : ¬ nI f = 0 := nI_ne0 h0 (by omega)
  rw [E234]
  simp only [bI_some, bV_some, bR_some, bL_some, ob_some, cd_t, cd_f, cd_d, okO_setI, okA_setI, okL_setI, aLen_setI, hR_setI, hI_setI, Bool.true_and, Bool.and_true, Bool.and_self, Option.isNone_some, Option.isSome_some, Option.isNone_none, Option.isSome_none, okO_chI, okA_chI, okL_chI, aLen_chI, hR_chI, ↓reduceIte, not_true_eq_false, not_false_eq_true, eq_self, c10, ok, e3, n, e4]
  rfl
theorem R226 {rb dr : Nat} {jd : Option Nat} {h : rz_H} (w : Wf rb dr jd h) {r : Nat} (hr : isR r) (x : Int32) (d : Nat) : cW (d + 1) 226 [rz_r (some r), rz_i x] h = some (rz_i 0, setI (setI (setI (setI h r 1 x) r 2 0) r 3 0) r 4 0) := by
  have ok := (WRd w hr).1
  rw [E226]
  simp only [bI_some, bV_some, bR_some, bL_some, ob_some, cd_t, cd_f, cd_d, okO_setI, okA_setI, okL_setI, aLen_setI, hR_setI, hI_setI, Bool.true_and, Bool.and_true, Bool.and_self, Option.isNone_some, Option.isSome_some, Option.isNone_none, Option.isSome_none, okO_chI, okA_chI, okL_chI, aLen_chI, hR_chI, ↓reduceIte, not_true_eq_false, not_false_eq_true, eq_self, c10, ok]
/-- a picture or a gap at the place -/
def pcT (t : Nat → Nat) (L p : Nat) : Option Nat := if p < L ∧ t p = 45 then some 16 else if p < L ∧ 97 ≤ t p ∧ t p ≤ 112 then some (t p - 97) else none
def pcI (o : Option Nat) : Int32 := match o with
  | some c => nI c
  | none => -1
theorem pcT_le {t : Nat → Nat} {L p c : Nat} (h : pcT t L p = some c) : c ≤ 16 ∧ p < L := by
  unfold pcT at h
  split at h
  · rename_i q
    have : 16 = c := by simpa using h
    exact ⟨by omega, q.1⟩
  · split at h
    · rename_i q
      have : t p - 97 = c := by simpa using h
      exact ⟨by omega, q.1⟩
    · exact absurd h (by simp)
theorem R237 (d : Nat) (h : rz_H) {t : Nat → Nat} {L p : Nat} (hb : p < L → t p < 256) : cW (d + 1) 237 [rz_i (pkI t L p)] h = some (rz_i (pcI (pcT t L p)), h) := by
  have p45 : pkI t L p = 45 ↔ p < L ∧ t p = 45 := pkk_eq (m := 45) hb (by omega)
  have p97 : pkI t L p < 97 ↔ (p < L → t p < 97) := pkk_lt (m := 97) hb (by omega)
  have p112 : (112 : Int32) < pkI t L p ↔ p < L ∧ 112 < t p := pkk_gt (m := 112) hb (by omega)
  rw [E237]
  unfold pcT
  by_cases c1 : p < L ∧ t p = 45
  · rw [if_pos c1]
    simp only [bI_some, bV_some, bR_some, bL_some, ob_some, cd_t, cd_f, cd_d, okO_setI, okA_setI, okL_setI, aLen_setI, hR_setI, hI_setI, Bool.true_and, Bool.and_true, Bool.and_self, Option.isNone_some, Option.isSome_some, Option.isNone_none, Option.isSome_none, okO_chI, okA_chI, okL_chI, aLen_chI, hR_chI, ↓reduceIte, not_true_eq_false, not_false_eq_true, eq_self, c10, p45.mpr c1]
    rfl
  · rw [if_neg c1]
    have n1 : ¬ pkI t L p = 45 := fun q => c1 (p45.mp q)
    by_cases c2 : p < L ∧ 97 ≤ t p ∧ t p ≤ 112
    · rw [if_pos c2]
      have n2 : ¬ pkI t L p < 97 := fun q => by have := p97.mp q c2.1; omega
      have n3 : ¬ (112 : Int32) < pkI t L p := fun q => by have := (p112.mp q).2; omega
      simp only [bI_some, bV_some, bR_some, bL_some, ob_some, cd_t, cd_f, cd_d, okO_setI, okA_setI, okL_setI, aLen_setI, hR_setI, hI_setI, Bool.true_and, Bool.and_true, Bool.and_self, Option.isNone_some, Option.isSome_some, Option.isNone_none, Option.isSome_none, okO_chI, okA_chI, okL_chI, aLen_chI, hR_chI, ↓reduceIte, not_true_eq_false, not_false_eq_true, eq_self, c10, n1, n2, n3]
      rw [pkk_in c2.1]
      have u : nI (t p) - (97 : Int32) = nI (t p - 97) := nI_sub (b := 97) c2.2.1
      rw [u]
      rfl
    · rw [if_neg c2]
      by_cases c3 : pkI t L p < 97
      · simp only [bI_some, bV_some, bR_some, bL_some, ob_some, cd_t, cd_f, cd_d, okO_setI, okA_setI, okL_setI, aLen_setI, hR_setI, hI_setI, Bool.true_and, Bool.and_true, Bool.and_self, Option.isNone_some, Option.isSome_some, Option.isNone_none, Option.isSome_none, okO_chI, okA_chI, okL_chI, aLen_chI, hR_chI, ↓reduceIte, not_true_eq_false, not_false_eq_true, eq_self, c10, n1, c3]
        rfl
      · have n3 : (112 : Int32) < pkI t L p := by
          refine p112.mpr ?_
          have hp : p < L := Classical.byContradiction fun q => c3 (p97.mpr fun z => absurd z q)
          refine ⟨hp, ?_⟩
          have : ¬ t p < 97 := fun q => c3 (p97.mpr fun _ => q)
          omega
        simp only [bI_some, bV_some, bR_some, bL_some, ob_some, cd_t, cd_f, cd_d, okO_setI, okA_setI, okL_setI, aLen_setI, hR_setI, hI_setI, Bool.true_and, Bool.and_true, Bool.and_self, Option.isNone_some, Option.isSome_some, Option.isNone_none, Option.isSome_none, okO_chI, okA_chI, okL_chI, aLen_chI, hR_chI, ↓reduceIte, not_true_eq_false, not_false_eq_true, eq_self, c10, n1, c3, n3]
        rfl
/-! the model's -/
/-- the text, its end, the place -/
def MT (h : rz_H) (N : Nat) (t : Nat → Nat) (L p : Nat) : Prop := Tm h N t ∧ L ≤ N ∧ hI h 109 6 = nI L ∧ hI h 109 5 = nI p ∧ p < 1000
theorem MT.b {h : rz_H} {N : Nat} {t : Nat → Nat} {L p : Nat} (m : MT h N t L p) (i : Nat) (hi : i < L) : t i < 256 := (m.1.2 i (by have := m.2.1; omega)).1
theorem K49 {rb dr : Nat} {jd : Option Nat} {h : rz_H} (w : Wf rb dr jd h) {N : Nat} {t : Nat → Nat} {L p : Nat} (m : MT h N t L p) (d : Nat) : cW (d + 1) 49 [rz_r (some 109)] h = some (rz_i (pkI t L p), h) := by
  obtain ⟨T, hL, e6, e5, hp⟩ := m
  have hN := T.1
  rw [E49]
  by_cases c : p < L
  · have b := (T.2 p (by omega)).2
    rw [pkk_in c]
    simp (disch := omega) only [↓cd_d, ↓irem_eq_mod, ↓ob_setI, ↓ob_chI, ↓ob_some, bI_some, bV_some, bR_some, bL_some, ob_some, cd_t, cd_f, okO_setI, okA_setI, okL_setI, aLen_setI, hR_setI, hI_setI, Bool.true_and, Bool.and_true, Bool.and_self, Option.isNone_some, Option.isSome_some, Option.isNone_none, Option.isSome_none, okO_chI, okA_chI, okL_chI, aLen_chI, hR_chI, ↓reduceIte, not_true_eq_false, not_false_eq_true, eq_self, c10, Nat.zero_add, nI_add, litA, litB, litM, nI_mul, nI_leI, nI_ltI, nI_eq, litLe, litLe2, litLt, litLt2, litEq, litEq2, in_nI, lit_in, nI_clamp, lit_cl, if_pos, if_neg, ↓WMb w, WMd w, e6, e5, b]
  · rw [pkk_out c]
    simp (disch := omega) only [↓cd_d, ↓irem_eq_mod, ↓ob_setI, ↓ob_chI, ↓ob_some, bI_some, bV_some, bR_some, bL_some, ob_some, cd_t, cd_f, okO_setI, okA_setI, okL_setI, aLen_setI, hR_setI, hI_setI, Bool.true_and, Bool.and_true, Bool.and_self, Option.isNone_some, Option.isSome_some, Option.isNone_none, Option.isSome_none, okO_chI, okA_chI, okL_chI, aLen_chI, hR_chI, ↓reduceIte, not_true_eq_false, not_false_eq_true, eq_self, c10, Nat.zero_add, nI_add, litA, litB, litM, nI_mul, nI_leI, nI_ltI, nI_eq, litLe, litLe2, litLt, litLt2, litEq, litEq2, in_nI, lit_in, nI_clamp, lit_cl, if_pos, if_neg, WMd w, e6, e5]
theorem K51 {rb dr : Nat} {jd : Option Nat} {h : rz_H} (w : Wf rb dr jd h) (f p : Nat) (d : Nat) : cW (d + 1) 51 [rz_r (some 109), rz_i (nI f), rz_i (nI p)] h = some (rz_i 0, setI h 109 7 (erI f p)) := by
  rw [E51]
  simp only [bI_some, bV_some, bR_some, bL_some, ob_some, cd_t, cd_f, cd_d, okO_setI, okA_setI, okL_setI, aLen_setI, hR_setI, hI_setI, Bool.true_and, Bool.and_true, Bool.and_self, Option.isNone_some, Option.isSome_some, Option.isNone_none, Option.isSome_none, okO_chI, okA_chI, okL_chI, aLen_chI, hR_chI, ↓reduceIte, not_true_eq_false, not_false_eq_true, eq_self, c10, WMd w]
  rfl
theorem K77 {rb dr : Nat} {jd : Option Nat} {h : rz_H} (w : Wf rb dr jd h) {N : Nat} {t : Nat → Nat} {L p : Nat} (m : MT h N t L p) (d : Nat) : cW (d + 2) 77 [rz_r (some 109)] h = some (rz_i (pcI (pcT t L p)), h) := by
  have hb := m.b p
  have p45 : pkI t L p = 45 ↔ p < L ∧ t p = 45 := pkk_eq (m := 45) hb (by omega)
  have p97 : pkI t L p < 97 ↔ (p < L → t p < 97) := pkk_lt (m := 97) hb (by omega)
  have p112 : (112 : Int32) < pkI t L p ↔ p < L ∧ 112 < t p := pkk_gt (m := 112) hb (by omega)
  rw [E77]
  unfold pcT
  by_cases c1 : p < L ∧ t p = 45
  · rw [if_pos c1]
    simp only [bI_some, bV_some, bR_some, bL_some, ob_some, cd_t, cd_f, cd_d, okO_setI, okA_setI, okL_setI, aLen_setI, hR_setI, hI_setI, Bool.true_and, Bool.and_true, Bool.and_self, Option.isNone_some, Option.isSome_some, Option.isNone_none, Option.isSome_none, okO_chI, okA_chI, okL_chI, aLen_chI, hR_chI, ↓reduceIte, not_true_eq_false, not_false_eq_true, eq_self, c10, WMd w, K49 w m, p45.mpr c1]
    rfl
  · rw [if_neg c1]
    have n1 : ¬ pkI t L p = 45 := fun q => c1 (p45.mp q)
    by_cases c2 : p < L ∧ 97 ≤ t p ∧ t p ≤ 112
    · rw [if_pos c2]
      have n2 : (97 : Int32) ≤ pkI t L p ∧ pkI t L p ≤ 112 := ⟨Int32.not_lt.mp fun q => by have := p97.mp q c2.1; omega, Int32.not_lt.mp fun q => by have := (p112.mp q).2; omega⟩
      simp only [bI_some, bV_some, bR_some, bL_some, ob_some, cd_t, cd_f, cd_d, okO_setI, okA_setI, okL_setI, aLen_setI, hR_setI, hI_setI, Bool.true_and, Bool.and_true, Bool.and_self, Option.isNone_some, Option.isSome_some, Option.isNone_none, Option.isSome_none, okO_chI, okA_chI, okL_chI, aLen_chI, hR_chI, ↓reduceIte, not_true_eq_false, not_false_eq_true, eq_self, c10, WMd w, K49 w m, n1, S33, if_pos n2]
      rw [pkk_in c2.1]
      have u : nI (t p) - (97 : Int32) = nI (t p - 97) := nI_sub (b := 97) c2.2.1
      rw [u]
      rfl
    · rw [if_neg c2]
      have n2 : ¬ ((97 : Int32) ≤ pkI t L p ∧ pkI t L p ≤ 112) := fun q => by
        have q1 : ¬ (p < L → t p < 97) := fun z => Int32.not_lt.mpr q.1 (p97.mpr z)
        have hp : p < L := Classical.byContradiction fun z => q1 fun y => absurd y z
        have q2 : ¬ (p < L ∧ 112 < t p) := fun z => Int32.not_lt.mpr q.2 (p112.mpr z)
        refine c2 ⟨hp, ?_, ?_⟩
        · exact Nat.not_lt.mp fun z => q1 fun _ => z
        · exact Nat.not_lt.mp fun z => q2 ⟨hp, z⟩
      simp only [bI_some, bV_some, bR_some, bL_some, ob_some, cd_t, cd_f, cd_d, okO_setI, okA_setI, okL_setI, aLen_setI, hR_setI, hI_setI, Bool.true_and, Bool.and_true, Bool.and_self, Option.isNone_some, Option.isSome_some, Option.isNone_none, Option.isSome_none, okO_chI, okA_chI, okL_chI, aLen_chI, hR_chI, ↓reduceIte, not_true_eq_false, not_false_eq_true, eq_self, c10, WMd w, K49 w m, n1, S33, if_neg n2]
      rfl
theorem K52 {rb dr : Nat} {jd : Option Nat} {h : rz_H} (w : Wf rb dr jd h) {N : Nat} {t : Nat → Nat} {L p : Nat} (m : MT h N t L p) {c : Nat} (hc : c < 1000) (d : Nat) : cW (d + 2) 52 [rz_r (some 109), rz_i (nI c)] h = if p < L ∧ t p = c then some (rz_i 1, setI h 109 5 (nI (p + 1))) else some (rz_i 0, setI h 109 7 (erI 1 p)) := by
  have pe := pkk_eq (t := t) (L := L) (p := p) (m := c) (m.b p) hc
  have e5 := m.2.2.2.1
  have k51 := fun d => K51 w 1 p d
  rw [show nI 1 = (1 : Int32) from rfl] at k51
  rw [E52]
  by_cases q : p < L ∧ t p = c
  · rw [if_pos q]
    simp only [bI_some, bV_some, bR_some, bL_some, ob_some, cd_t, cd_f, cd_d, okO_setI, okA_setI, okL_setI, aLen_setI, hR_setI, hI_setI, Bool.true_and, Bool.and_true, Bool.and_self, Option.isNone_some, Option.isSome_some, Option.isNone_none, Option.isSome_none, okO_chI, okA_chI, okL_chI, aLen_chI, hR_chI, ↓reduceIte, not_true_eq_false, not_false_eq_true, eq_self, c10, WMd w, K49 w m, pe.mpr q, e5, nI_1]
  · rw [if_neg q]
    have pe : ¬ pkI t L p = nI c := fun z => q (pe.mp z)
    simp only [bI_some, bV_some, bR_some, bL_some, ob_some, cd_t, cd_f, cd_d, okO_setI, okA_setI, okL_setI, aLen_setI, hR_setI, hI_setI, Bool.true_and, Bool.and_true, Bool.and_self, Option.isNone_some, Option.isSome_some, Option.isNone_none, Option.isSome_none, okO_chI, okA_chI, okL_chI, aLen_chI, hR_chI, ↓reduceIte, not_true_eq_false, not_false_eq_true, eq_self, c10, WMd w, K49 w m, pe, e5, k51]
    rfl
