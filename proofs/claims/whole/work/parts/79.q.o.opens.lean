/-! the law's text: the model opens -/
theorem MS.op {rb dr : Nat} {jd : Option Nat} {h0 : rz_H} (w0 : Wf rb dr jd h0) {h : rz_H} {N : Nat} {t : Nat → Nat} {L ms p : Nat} {c : CC} {n : Nat} {W : List Nat} {op : Nat} (s : MS h0 h N t L ms p c n W op) (ho : op < 6) (hW : W.length < 250) (hp : p < 900) {k : Nat} (hk : k < 16) (d : Nat) : ∃ h', cW (d + 1) 55 [rz_r (some 109), rz_i (nI k)] h = some (rz_i 1, h') ∧ MS h0 h' N t L ms (p + 1) c n (1048576 * k :: W) (op + 1) := by
  have w : Wf rb dr jd h := w0.e s.1.1
  obtain ⟨f, m, e10, cd, e11, ws, e9⟩ := s
  have e5 := m.2.2.2.1
  let h' := setI (setI (setI (setI h 109 9 (nI (op + 1))) 115 W.length (nI (1048576 * k))) 109 11 (nI (W.length + 1))) 109 5 (nI (p + 1))
  have oo : ∀ b i, ¬ (b = 115 ∧ i = W.length) → ¬ (b = 109 ∧ (i = 5 ∨ i = 9 ∨ i = 11)) → hI h' b i = hI h b i := fun b i n1 n2 => by
    show hI (setI (setI (setI (setI h 109 9 (nI (op + 1))) 115 W.length (nI (1048576 * k))) 109 11 (nI (W.length + 1))) 109 5 (nI (p + 1))) b i = _
    rw [hI_setI, if_neg (by omega), hI_setI, if_neg (by omega), hI_setI, if_neg n1, hI_setI, if_neg (by omega)]
  have v5 : hI h' 109 5 = nI (p + 1) := by
    show hI (setI _ 109 5 _) 109 5 = _
    rw [hI_setI, if_pos ⟨rfl, rfl⟩]
  have v11 : hI h' 109 11 = nI (W.length + 1) := by
    show hI (setI (setI _ 109 11 _) 109 5 _) 109 11 = _
    rw [hI_setI, if_neg (by omega), hI_setI, if_pos ⟨rfl, rfl⟩]
  have v9 : hI h' 109 9 = nI (op + 1) := by
    show hI (setI (setI (setI (setI h 109 9 _) 115 _ _) 109 11 _) 109 5 _) 109 9 = _
    rw [hI_setI, if_neg (by omega), hI_setI, if_neg (by omega), hI_setI, if_neg (by omega), hI_setI, if_pos ⟨rfl, rfl⟩]
  have vw : hI h' 115 W.length = nI (1048576 * k) := by
    show hI (setI (setI (setI (setI h 109 9 _) 115 W.length _) 109 11 _) 109 5 _) 115 W.length = _
    rw [hI_setI, if_neg (by omega), hI_setI, if_neg (by omega), hI_setI, if_pos ⟨rfl, rfl⟩]
  refine ⟨h', ?_, ⟨f.1, fun b i n1 n2 n3 => (oo b i (by omega) (by omega)).trans (f.2 b i n1 n2 n3)⟩, m.fm (fun b i hb => oo b i (by omega) (by omega)) v5 (by omega), (oo 109 10 (by omega) (by omega)).trans e10, fun i hi => (oo 114 _ (by omega) (by omega)).trans (cd i hi), v11, ⟨vw, by omega, ws.to W (fun i hi => oo 115 i (by omega) (by omega))⟩, v9⟩
  have n6 : ¬ nI op = (6 : Int32) := fun z => by
    have := (nI_eq (a := op) (b := 6) (by omega) (by omega)).mp z
    omega
  rw [E55]
  simp (disch := omega) only [↓cd_d, ↓irem_eq_mod, ↓ob_setI, ↓ob_chI, ↓ob_some, bI_some, bV_some, bR_some, bL_some, ob_some, cd_t, cd_f, okO_setI, okA_setI, okL_setI, aLen_setI, hR_setI, hI_setI, Bool.true_and, Bool.and_true, Bool.and_self, Option.isNone_some, Option.isSome_some, Option.isNone_none, Option.isSome_none, okO_chI, okA_chI, okL_chI, aLen_chI, hR_chI, ↓reduceIte, not_true_eq_false, not_false_eq_true, eq_self, c10, Nat.zero_add, nI_add, litA, litB, litM, nI_mul, nI_leI, nI_ltI, nI_eq, litLe, litLe2, litLt, litLt2, litEq, litEq2, in_nI, lit_in, nI_clamp, lit_cl, if_pos, if_neg, ↓WMb w, WMd w, e9, n6, e11, e5]
  rfl
theorem MS.on {rb dr : Nat} {jd : Option Nat} {h0 : rz_H} (w0 : Wf rb dr jd h0) {h : rz_H} {N : Nat} {t : Nat → Nat} {L ms p : Nat} {c : CC} {n : Nat} {W : List Nat} (s : MS h0 h N t L ms p c n W 6) (k : Nat) (d : Nat) : ∃ h', cW (d + 2) 55 [rz_r (some 109), rz_i (nI k)] h = some (rz_i 0, h') ∧ ME ms h0 h' (5, p) := by
  have w : Wf rb dr jd h := w0.e s.1.1
  obtain ⟨f, m, e10, cd, e11, ws, e9⟩ := s
  have e5 := m.2.2.2.1
  have k51 := fun d => K51 w 5 p d
  rw [show nI 5 = (5 : Int32) from rfl] at k51
  have e9 : hI h 109 9 = 6 := e9
  refine ⟨setI h 109 7 (erI 5 p), ?_, ⟨f.1, fun b i n1 n2 n3 => by rw [hI_setI, if_neg (by omega)]; exact f.2 b i n1 n2 n3⟩, by rw [hI_setI, if_pos ⟨rfl, rfl⟩]⟩
  rw [E55]
  simp only [bI_some, bV_some, bR_some, bL_some, ob_some, cd_t, cd_f, cd_d, okO_setI, okA_setI, okL_setI, aLen_setI, hR_setI, hI_setI, Bool.true_and, Bool.and_true, Bool.and_self, Option.isNone_some, Option.isSome_some, Option.isNone_none, Option.isSome_none, okO_chI, okA_chI, okL_chI, aLen_chI, hR_chI, ↓reduceIte, not_true_eq_false, not_false_eq_true, eq_self, c10, WMd w, e9, e5, k51]
  rfl
