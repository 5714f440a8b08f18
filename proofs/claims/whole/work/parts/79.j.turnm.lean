/-! one drum goes on by one tick: the model's side -/
theorem M84 {rb dr : Nat} {jd : Option Nat} {h : rz_H} (w : Wf rb dr jd h) {k : Nat} (hk : k < 8) {F p t v s q : Nat} {g e : Nat → Nat} (O : tOk F p t v s q g e) (M : Dm h k F p t v s q g e) (h0 : 0 < F) {tk : Nat} (ht : hI h 110 304 = nI tk) (htk : tk < 10000) (dw : Nat) (d : Nat) : ∃ k', cW (d + 3) 84 [rz_r (some 109), rz_i (nI k), rz_i (nI dw)] h = some (rz_i 0, k') ∧ k'.2 = h.2 ∧ (∀ v9, v9 < 9 → hI k' 126 v9 = fct k F p t s g e tk dw v9) ∧ ∀ b i, b ≠ 126 → hI k' b i = hI h b i := by
  have O' := O
  have M' := M
  obtain ⟨o1, o2, o3, o4, o5, o6, o7⟩ := O
  obtain ⟨m1, m2, m3, m4, m5, m6, m7⟩ := M
  obtain ⟨hp, -⟩ := o6 h0
  let k1 := setI h 126 0 (nI k)
  let k2 := setI k1 126 1 (nI (shw g e p))
  let k3 := setI k2 126 2 (nI F)
  let k4 := setI k3 126 3 (nI t)
  let k5 := setI k4 126 4 (nI (e p))
  let k6 := setI k5 126 5 (nI s)
  let k7 := setI k6 126 6 (nI (gps F g e))
  let k8 := setI k7 126 7 (nI (tk % 100))
  let k9 := setI k8 126 8 (nI dw)
  have w1 : Wf rb dr jd k1 := w
  have w2 : Wf rb dr jd k2 := w
  have w3 : Wf rb dr jd k3 := w
  have w4 : Wf rb dr jd k4 := w
  have w5 : Wf rb dr jd k5 := w
  have w6 : Wf rb dr jd k6 := w
  have w7 : Wf rb dr jd k7 := w
  have w8 : Wf rb dr jd k8 := w
  have D1 : Dm k1 k F p t v s q g e := M'.to (fun _ => rfl)
  have D2 : Dm k2 k F p t v s q g e := M'.to (fun _ => rfl)
  have D6 : Dm k6 k F p t v s q g e := M'.to (fun _ => rfl)
  have c43 := M43 w1 hk O' D1 hp
  have c41 := M41 w2 hk O' D2
  have c44 := M44 w6 hk O' D6
  have md := nI_mod (a := tk) (b := 100) (by omega) (by omega) (by omega)
  rw [show nI 100 = (100 : Int32) from rfl] at md
  have q3 : hI k3 110 (272 + k) = nI t := m3
  have q4 : hI k4 110 (128 + 16 * k + p) = nI (e p) := (m7 p hp).2
  have q5 : hI k5 110 (288 + k) = nI s := m5
  have q7 : hI k7 110 304 = nI tk := ht
  refine ⟨k9, ?_, rfl, fun v9 hv => ?_, fun b i hb => ?_⟩
  · rw [X84]
    simp (disch := omega) only [↓cd_d, ↓irem_eq_mod, ↓ob_setI, ↓ob_chI, ↓ob_some, bI_some, bV_some, bR_some, bL_some, ob_some, cd_t, cd_f, okO_setI, okA_setI, okL_setI, aLen_setI, hR_setI, hI_setI, Bool.true_and, Bool.and_true, Bool.and_self, Option.isNone_some, Option.isSome_some, Option.isNone_none, Option.isSome_none, okO_chI, okA_chI, okL_chI, aLen_chI, hR_chI, ↓reduceIte, not_true_eq_false, not_false_eq_true, eq_self, c10, Nat.zero_add, nI_add, litA, litB, litM, nI_mul, nI_leI, nI_ltI, nI_eq, litLe, litLe2, litLt, litLt2, litEq, litEq2, in_nI, lit_in, nI_clamp, lit_cl, if_pos, if_neg, ↓WMb w, WMd w, m2]
    rw [show setI h 126 0 (nI k) = k1 from rfl, X84_12]
    simp (disch := omega) only [↓cd_d, ↓irem_eq_mod, ↓ob_setI, ↓ob_chI, ↓ob_some, bI_some, bV_some, bR_some, bL_some, ob_some, cd_t, cd_f, okO_setI, okA_setI, okL_setI, aLen_setI, hR_setI, hI_setI, Bool.true_and, Bool.and_true, Bool.and_self, Option.isNone_some, Option.isSome_some, Option.isNone_none, Option.isSome_none, okO_chI, okA_chI, okL_chI, aLen_chI, hR_chI, ↓reduceIte, not_true_eq_false, not_false_eq_true, eq_self, c10, Nat.zero_add, nI_add, litA, litB, litM, nI_mul, nI_leI, nI_ltI, nI_eq, litLe, litLe2, litLt, litLt2, litEq, litEq2, in_nI, lit_in, nI_clamp, lit_cl, if_pos, if_neg, ↓WMb w1, WMd w1, c43]
    rw [show setI k1 126 1 (nI (shw g e p)) = k2 from rfl, X84_20]
    simp (disch := omega) only [↓cd_d, ↓irem_eq_mod, ↓ob_setI, ↓ob_chI, ↓ob_some, bI_some, bV_some, bR_some, bL_some, ob_some, cd_t, cd_f, okO_setI, okA_setI, okL_setI, aLen_setI, hR_setI, hI_setI, Bool.true_and, Bool.and_true, Bool.and_self, Option.isNone_some, Option.isSome_some, Option.isNone_none, Option.isSome_none, okO_chI, okA_chI, okL_chI, aLen_chI, hR_chI, ↓reduceIte, not_true_eq_false, not_false_eq_true, eq_self, c10, Nat.zero_add, nI_add, litA, litB, litM, nI_mul, nI_leI, nI_ltI, nI_eq, litLe, litLe2, litLt, litLt2, litEq, litEq2, in_nI, lit_in, nI_clamp, lit_cl, if_pos, if_neg, ↓WMb w2, WMd w2, c41]
    rw [show setI k2 126 2 (nI F) = k3 from rfl, X84_27]
    simp (disch := omega) only [↓cd_d, ↓irem_eq_mod, ↓ob_setI, ↓ob_chI, ↓ob_some, bI_some, bV_some, bR_some, bL_some, ob_some, cd_t, cd_f, okO_setI, okA_setI, okL_setI, aLen_setI, hR_setI, hI_setI, Bool.true_and, Bool.and_true, Bool.and_self, Option.isNone_some, Option.isSome_some, Option.isNone_none, Option.isSome_none, okO_chI, okA_chI, okL_chI, aLen_chI, hR_chI, ↓reduceIte, not_true_eq_false, not_false_eq_true, eq_self, c10, Nat.zero_add, nI_add, litA, litB, litM, nI_mul, nI_leI, nI_ltI, nI_eq, litLe, litLe2, litLt, litLt2, litEq, litEq2, in_nI, lit_in, nI_clamp, lit_cl, if_pos, if_neg, ↓WMb w3, WMd w3, q3]
    rw [show setI k3 126 3 (nI t) = k4 from rfl, X84_37]
    simp (disch := omega) only [↓cd_d, ↓irem_eq_mod, ↓ob_setI, ↓ob_chI, ↓ob_some, bI_some, bV_some, bR_some, bL_some, ob_some, cd_t, cd_f, okO_setI, okA_setI, okL_setI, aLen_setI, hR_setI, hI_setI, Bool.true_and, Bool.and_true, Bool.and_self, Option.isNone_some, Option.isSome_some, Option.isNone_none, Option.isSome_none, okO_chI, okA_chI, okL_chI, aLen_chI, hR_chI, ↓reduceIte, not_true_eq_false, not_false_eq_true, eq_self, c10, Nat.zero_add, nI_add, litA, litB, litM, nI_mul, nI_leI, nI_ltI, nI_eq, litLe, litLe2, litLt, litLt2, litEq, litEq2, in_nI, lit_in, nI_clamp, lit_cl, if_pos, if_neg, ↓WMb w4, WMd w4, q4]
    rw [show setI k4 126 4 (nI (e p)) = k5 from rfl, X84_51]
    simp (disch := omega) only [↓cd_d, ↓irem_eq_mod, ↓ob_setI, ↓ob_chI, ↓ob_some, bI_some, bV_some, bR_some, bL_some, ob_some, cd_t, cd_f, okO_setI, okA_setI, okL_setI, aLen_setI, hR_setI, hI_setI, Bool.true_and, Bool.and_true, Bool.and_self, Option.isNone_some, Option.isSome_some, Option.isNone_none, Option.isSome_none, okO_chI, okA_chI, okL_chI, aLen_chI, hR_chI, ↓reduceIte, not_true_eq_false, not_false_eq_true, eq_self, c10, Nat.zero_add, nI_add, litA, litB, litM, nI_mul, nI_leI, nI_ltI, nI_eq, litLe, litLe2, litLt, litLt2, litEq, litEq2, in_nI, lit_in, nI_clamp, lit_cl, if_pos, if_neg, ↓WMb w5, WMd w5, q5]
    rw [show setI k5 126 5 (nI s) = k6 from rfl, X84_61]
    simp (disch := omega) only [↓cd_d, ↓irem_eq_mod, ↓ob_setI, ↓ob_chI, ↓ob_some, bI_some, bV_some, bR_some, bL_some, ob_some, cd_t, cd_f, okO_setI, okA_setI, okL_setI, aLen_setI, hR_setI, hI_setI, Bool.true_and, Bool.and_true, Bool.and_self, Option.isNone_some, Option.isSome_some, Option.isNone_none, Option.isSome_none, okO_chI, okA_chI, okL_chI, aLen_chI, hR_chI, ↓reduceIte, not_true_eq_false, not_false_eq_true, eq_self, c10, Nat.zero_add, nI_add, litA, litB, litM, nI_mul, nI_leI, nI_ltI, nI_eq, litLe, litLe2, litLt, litLt2, litEq, litEq2, in_nI, lit_in, nI_clamp, lit_cl, if_pos, if_neg, ↓WMb w6, WMd w6, c44]
    rw [show setI k6 126 6 (nI (gps F g e)) = k7 from rfl, X84_68]
    simp (disch := omega) only [↓cd_d, ↓irem_eq_mod, ↓ob_setI, ↓ob_chI, ↓ob_some, bI_some, bV_some, bR_some, bL_some, ob_some, cd_t, cd_f, okO_setI, okA_setI, okL_setI, aLen_setI, hR_setI, hI_setI, Bool.true_and, Bool.and_true, Bool.and_self, Option.isNone_some, Option.isSome_some, Option.isNone_none, Option.isSome_none, okO_chI, okA_chI, okL_chI, aLen_chI, hR_chI, ↓reduceIte, not_true_eq_false, not_false_eq_true, eq_self, c10, Nat.zero_add, nI_add, litA, litB, litM, nI_mul, nI_leI, nI_ltI, nI_eq, litLe, litLe2, litLt, litLt2, litEq, litEq2, in_nI, lit_in, nI_clamp, lit_cl, if_pos, if_neg, ↓WMb w7, WMd w7, q7, md]
    rw [show setI k7 126 7 (nI (tk % 100)) = k8 from rfl, X84_78]
    simp (disch := omega) only [↓cd_d, ↓irem_eq_mod, ↓ob_setI, ↓ob_chI, ↓ob_some, bI_some, bV_some, bR_some, bL_some, ob_some, cd_t, cd_f, okO_setI, okA_setI, okL_setI, aLen_setI, hR_setI, hI_setI, Bool.true_and, Bool.and_true, Bool.and_self, Option.isNone_some, Option.isSome_some, Option.isNone_none, Option.isSome_none, okO_chI, okA_chI, okL_chI, aLen_chI, hR_chI, ↓reduceIte, not_true_eq_false, not_false_eq_true, eq_self, c10, Nat.zero_add, nI_add, litA, litB, litM, nI_mul, nI_leI, nI_ltI, nI_eq, litLe, litLe2, litLt, litLt2, litEq, litEq2, in_nI, lit_in, nI_clamp, lit_cl, if_pos, if_neg, ↓WMb w8, WMd w8]
    rfl
  · rcases (show v9 = 0 ∨ v9 = 1 ∨ v9 = 2 ∨ v9 = 3 ∨ v9 = 4 ∨ v9 = 5 ∨ v9 = 6 ∨ v9 = 7 ∨ v9 = 8 by omega) with rfl | rfl | rfl | rfl | rfl | rfl | rfl | rfl | rfl <;> rfl
  · show hI (setI (setI (setI (setI (setI (setI (setI (setI (setI h 126 0 (nI k)) 126 1 (nI (shw g e p))) 126 2 (nI F)) 126 3 (nI t)) 126 4 (nI (e p))) 126 5 (nI s)) 126 6 (nI (gps F g e))) 126 7 (nI (tk % 100))) 126 8 (nI dw)) b i = _
    simp only [hI_setI, if_neg (fun z : b = 126 ∧ _ => hb z.1)]
theorem M85l {rb dr : Nat} {jd : Option Nat} {kk F : Nat} (hk : kk < 8) (h0 : 0 < F) (hF : F ≤ 16) (x3 x5 : Int32) (d : Nat) : ∀ c w0 t0 k, w0 / F = c → w0 < 1000 → t0 ≤ 999 → Wf rb dr jd k → hI k 110 (280 + kk) = nI w0 → hI k 110 (272 + kk) = nI t0 → ∃ k', (∀ j2 j4 j7, ∃ i2 i4 i7, rW (d + 1) 85 (96, (0, 0), [some (rz_r (some 109)), some (rz_i (nI kk)), j2, some (rz_i x3), j4, some (rz_i x5), some (rz_i (nI F)), j7], [], k) = rW (d + 1) 85 (96, (0, 0), [some (rz_r (some 109)), some (rz_i (nI kk)), i2, some (rz_i x3), i4, some (rz_i x5), some (rz_i (nI F)), i7], [], k')) ∧ k'.2 = k.2 ∧ hI k' 110 (280 + kk) = nI (w0 % F) ∧ hI k' 110 (272 + kk) = nI (t0 - w0 / F) ∧ ∀ b i, ¬ (b = 110 ∧ (i = 280 + kk ∨ i = 272 + kk)) → hI k' b i = hI k b i := by
  intro c
  induction c with
  | zero =>
    intro w0 t0 k hc hw ht w e5 e4
    have hl : w0 < F := by
      refine Nat.not_le.mp fun q => ?_
      have z := (sub1 q h0).1
      rw [hc] at z
      exact Nat.succ_ne_zero _ z
    exact ⟨k, fun j2 j4 j7 => ⟨j2, j4, j7, rfl⟩, rfl, by rw [Nat.mod_eq_of_lt hl]; exact e5, by rw [hc]; exact e4, fun _ _ _ => rfl⟩
  | succ c ih =>
    intro w0 t0 k hc hw ht w e5 e4
    have hl : F ≤ w0 := by
      refine Nat.not_lt.mp fun q => ?_
      rw [Nat.div_eq_of_lt q] at hc
      exact Nat.succ_ne_zero _ hc.symm
    obtain ⟨s1, s2⟩ := sub1 hl h0
    have u1 : nI w0 - nI F = nI (w0 - F) := nI_sub hl
    have u2 : mx 0 (nI t0 - 1) = nI (t0 - 1) := mx0_sub (b := 1) (by omega) (by omega)
    have v1 : hI (setI k 110 (280 + kk) (nI (w0 - F))) 110 (272 + kk) = nI t0 := by rw [hI_setI, if_neg (by omega)]; exact e4
    have w1 : Wf rb dr jd (setI k 110 (280 + kk) (nI (w0 - F))) := w
    obtain ⟨k', e, q1, q2, q3, q4⟩ := ih (w0 - F) (t0 - 1) (setI (setI k 110 (280 + kk) (nI (w0 - F))) 110 (272 + kk) (nI (t0 - 1))) (by omega) (by omega) (by omega) w (by rw [hI_setI, if_neg (by omega), hI_setI, if_pos ⟨rfl, rfl⟩]) (by rw [hI_setI, if_pos ⟨rfl, rfl⟩])
    refine ⟨k', fun j2 j4 j7 => ?_, q1, by rw [q2, s2], by rw [q3, show t0 - 1 - (w0 - F) / F = t0 - w0 / F by omega], fun b i hb => (q4 b i hb).trans (by rw [hI_setI, if_neg (by omega), hI_setI, if_neg (by omega)])⟩
    obtain ⟨i2, i4, i7, e⟩ := e none none none
    refine ⟨i2, i4, i7, ?_⟩
    rw [← e, X85_96]
    simp (disch := omega) only [↓cd_d, ↓irem_eq_mod, ↓ob_setI, ↓ob_chI, ↓ob_some, bI_some, bV_some, bR_some, bL_some, ob_some, cd_t, cd_f, okO_setI, okA_setI, okL_setI, aLen_setI, hR_setI, hI_setI, Bool.true_and, Bool.and_true, Bool.and_self, Option.isNone_some, Option.isSome_some, Option.isNone_none, Option.isSome_none, okO_chI, okA_chI, okL_chI, aLen_chI, hR_chI, ↓reduceIte, not_true_eq_false, not_false_eq_true, eq_self, c10, Nat.zero_add, nI_add, litA, litB, litM, nI_mul, nI_leI, nI_ltI, nI_eq, litLe, litLe2, litLt, litLt2, litEq, litEq2, in_nI, lit_in, nI_clamp, lit_cl, if_pos, if_neg, ↓WMb w, WMd w, e5, u1]
    rw [X85_118]
    simp only [↓cd_d, ↓ob_setI, ↓WMb w, bI_some, cd_t, okO_setI, okA_setI, WMd w, litA]
    simp (disch := omega) only [in_nI, cd_t, nI_clamp, v1, S35, bI_some, u2, ↓ob_setI, ↓WMb w, okA_setI, WMd w]
    rw [X85_134]
def Mo (k : Nat) (h h' : rz_H) : Prop := ∀ b i, b ≠ 125 → b ≠ 126 → ¬ (b = 109 ∧ i = 36) → ¬ (b = 110 ∧ (i = 305 ∨ i = 264 + k ∨ i = 272 + k ∨ i = 280 + k ∨ i = 288 + k ∨ i = 296 + k ∨ (128 + 16 * k ≤ i ∧ i < 144 + 16 * k))) → hI h' b i = hI h b i
theorem M85 {rb dr : Nat} {jd : Option Nat} {h : rz_H} (w : Wf rb dr jd h) {h0 : rz_H} (R : LwRel h0 rb) (E1 : ∀ b i, 120 ≤ b → b ≤ 124 → hI h b i = hI h0 b i) (E2 : hI h 109 13 = hI h0 109 13) {k : Nat} (hk : k < 8) {T : TU} (O : tO T) (M : tM h k T) (hF : 0 < T.1) {tk x gn : Nat} (ht : hI h 110 304 = nI tk) (htk : tk < 10000) (hx : hI h 110 305 = nI x) (hx2 : x ≤ 65535) (hg : hI h 109 36 = nI gn) (d : Nat) : ∃ h', cW (d + 5) 85 [rz_r (some 109), rz_i (nI k)] h = some (rz_i 0, h') ∧ h'.2 = h.2 ∧ tM h' k (trn h0 k tk (lcg x) T) ∧ hI h' 110 305 = nI (lcg x) ∧ hI h' 109 36 = nI (gn + (trn h0 k tk (lcg x) T).2.2.2.2.1) ∧ Mo k h h' := by
  obtain ⟨F, p, t, v, s, q, g, e⟩ := T
  have hF : 0 < F := hF
  have M : Dm h k F p t v s q g e := M
  have O : tOk F p t v s q g e := O
  let fa := faT k tk (lcg x) (F, p, t, v, s, q, g, e)
  let h1 := setI h 110 305 (nI (lcg x))
  have w1 : Wf rb dr jd h1 := w
  have hl := lcg_le x
  have o1' : ∀ i, i ≠ 305 → hI h1 110 i = hI h 110 i := fun i hi => by
    show hI (setI h 110 305 (nI (lcg x))) 110 i = _
    rw [hI_setI, if_neg (by omega)]
  have x5 : hI h1 110 305 = nI (lcg x) := rfl
  have M1 : Dm h1 k F p t v s q g e := by
    have hF16 : F ≤ 16 := O.1
    obtain ⟨m1, m2, m3, m4, m5, m6, m7⟩ := M
    exact ⟨(o1' _ (by omega)).trans m1, (o1' _ (by omega)).trans m2, (o1' _ (by omega)).trans m3, (o1' _ (by omega)).trans m4, (o1' _ (by omega)).trans m5, (o1' _ (by omega)).trans m6, fun i hi => ⟨(o1' _ (by omega)).trans (m7 i hi).1, (o1' _ (by omega)).trans (m7 i hi).2⟩⟩
  obtain ⟨k2, e2, y1, y2, y3⟩ := M84 w1 hk O M1 hF (ht : hI h1 110 304 = nI tk) htk (lcg x % 10) (d + 1)
  have w2 : Wf rb dr jd k2 := w1.e y1
  have L2 : Ml h0 fa k2 := ⟨⟨fun i => (y3 120 i (by omega)).trans (E1 120 i (by omega) (by omega)), fun v9 hv => y2 v9 hv⟩, fun b i b1 b2 => (y3 b i (by omega)).trans (by
    show hI (setI h 110 305 (nI (lcg x))) b i = _
    rw [hI_setI, if_neg (by omega)]; exact E1 b i (by omega) b2), (y3 109 13 (by omega)).trans E2⟩
  obtain ⟨k3, e3, f3⟩ := M73 w2 R (L := 118) (Or.inl rfl) (H := 15) (by omega) L2 (d + 1)
  obtain ⟨k4, e4, f4⟩ := M73 (w2.e f3.1) R (L := 97) (Or.inr rfl) (H := 99) (by omega) (L2.mf f3) (d + 1)
  have f4 := f3.trans f4
  obtain ⟨k5, e5, f5⟩ := M74 (w2.e f4.1) R 108 (L2.mf f4) (d + 1)
  have f5 := f4.trans f5
  obtain ⟨k6, e6, f6⟩ := M74 (w2.e f5.1) R 120 (L2.mf f5) (d + 1)
  have f6 := f5.trans f6
  have w3 : Wf rb dr jd k3 := w2.e f3.1
  have w4 : Wf rb dr jd k4 := w2.e f4.1
  have w5 : Wf rb dr jd k5 := w2.e f5.1
  have w6 : Wf rb dr jd k6 := w2.e f6.1
  have r6 : ∀ b i, b ≠ 125 → b ≠ 126 → hI k6 b i = hI h1 b i := fun b i n1 n2 => (f6.2 b i n1).trans (y3 b i n2)
  have M6 : Dm k6 k F p t v s q g e := M1.to (fun i => r6 110 i (by omega) (by omega))
  have hpc := lwV_le h0 fa 118 15
  have hwr := lwV_le h0 fa 97 99
  generalize hpc' : lwV h0 fa 118 15 = pc at e3 hpc
  generalize hwr' : lwV h0 fa 97 99 = wr at e4 hwr
  generalize hbk' : lwB h0 fa 108 = bk at e5
  generalize hfr' : lwB h0 fa 120 = fr at e6
  have htr : trn h0 k tk (lcg x) (F, p, t, v, s, q, g, e) = trT (F, p, t, v, s, q, g, e) pc wr bk fr := by
    unfold trn
    rw [show faT k tk (lcg x) (F, p, t, v, s, q, g, e) = fa from rfl, hpc', hwr', hbk', hfr']
  rw [htr]
  have c41 := M41 w6 hk O M6
  obtain ⟨o1, o2, o3, o4, o5, o6, o7⟩ := O
  obtain ⟨hp, hv⟩ := o6 hF
  obtain ⟨m1, m2, m3, m4, m5, m6, m7⟩ := M6
  have hnp := np_lt hF p pc bk
  let k7 := setI k6 110 (264 + k) (nI (np F p pc bk))
  let k8 := setI k7 110 (288 + k) (nI pc)
  let k9 := setI k8 110 (280 + k) (nI (v + pc))
  let ka := setI k9 109 36 (nI (gn + pc))
  have w7 : Wf rb dr jd k7 := w6
  have w8 : Wf rb dr jd k8 := w6
  have w9 : Wf rb dr jd k9 := w6
  have wa : Wf rb dr jd ka := w6
  have ra : ∀ b i, ¬ (b = 109 ∧ i = 36) → ¬ (b = 110 ∧ (i = 264 + k ∨ i = 280 + k ∨ i = 288 + k)) → hI ka b i = hI k6 b i := fun b i n1 n2 => by
    show hI (setI (setI (setI (setI k6 110 (264 + k) (nI (np F p pc bk))) 110 (288 + k) (nI pc)) 110 (280 + k) (nI (v + pc))) 109 36 (nI (gn + pc))) b i = _
    rw [hI_setI, if_neg n1, hI_setI, if_neg (by omega), hI_setI, if_neg (by omega), hI_setI, if_neg (by omega)]
  have ra1 : hI ka 110 (264 + k) = nI (np F p pc bk) := by
    show hI (setI (setI (setI (setI k6 110 (264 + k) (nI (np F p pc bk))) 110 (288 + k) (nI pc)) 110 (280 + k) (nI (v + pc))) 109 36 (nI (gn + pc))) 110 (264 + k) = _
    rw [hI_setI, if_neg (by omega), hI_setI, if_neg (by omega), hI_setI, if_neg (by omega), hI_setI, if_pos ⟨rfl, rfl⟩]
  have ra2 : hI ka 110 (288 + k) = nI pc := by
    show hI (setI (setI (setI (setI k6 110 (264 + k) (nI (np F p pc bk))) 110 (288 + k) (nI pc)) 110 (280 + k) (nI (v + pc))) 109 36 (nI (gn + pc))) 110 (288 + k) = _
    rw [hI_setI, if_neg (by omega), hI_setI, if_neg (by omega), hI_setI, if_pos ⟨rfl, rfl⟩]
  have ra3 : hI ka 110 (280 + k) = nI (v + pc) := by
    show hI (setI (setI (setI (setI k6 110 (264 + k) (nI (np F p pc bk))) 110 (288 + k) (nI pc)) 110 (280 + k) (nI (v + pc))) 109 36 (nI (gn + pc))) 110 (280 + k) = _
    rw [hI_setI, if_neg (by omega), hI_setI, if_pos ⟨rfl, rfl⟩]
  have ra4 : hI ka 109 36 = nI (gn + pc) := by
    show hI (setI k9 109 36 (nI (gn + pc))) 109 36 = _
    rw [hI_setI, if_pos ⟨rfl, rfl⟩]
  have q8 : hI k8 110 (280 + k) = nI v := by
    show hI (setI (setI k6 110 (264 + k) (nI (np F p pc bk))) 110 (288 + k) (nI pc)) 110 (280 + k) = _
    rw [hI_setI, if_neg (by omega), hI_setI, if_neg (by omega)]; exact m4
  have q9 : hI k9 109 36 = nI gn := by
    show hI (setI (setI (setI k6 110 (264 + k) (nI (np F p pc bk))) 110 (288 + k) (nI pc)) 110 (280 + k) (nI (v + pc))) 109 36 = _
    rw [hI_setI, if_neg (by omega), hI_setI, if_neg (by omega), hI_setI, if_neg (by omega), r6 109 36 (by omega) (by omega)]
    exact hg
  obtain ⟨kb, eb, z1, z2, z3, z4⟩ := M85l (rb := rb) (dr := dr) (jd := jd) hk hF o1 (nI wr) (bI1 fr) (d + 3) ((v + pc) / F) (v + pc) t ka rfl (by omega) o2 wa ra3 ((ra 110 (272 + k) (by omega) (by omega)).trans m3)
  have wb : Wf rb dr jd kb := wa.e z1
  have hm := Nat.mod_lt (v + pc) hF
  have qb1 : hI kb 110 (264 + k) = nI (np F p pc bk) := (z4 _ _ (by omega)).trans ra1
  have qb2 : hI kb 110 (128 + 16 * k + np F p pc bk) = nI (e (np F p pc bk)) := ((z4 _ _ (by omega)).trans (ra _ _ (by omega) (by omega))).trans (m7 _ hnp).2
  have he := (o7 _ hnp).2
  have u99 : mn (99 : Int32) (nI (e (np F p pc bk) + wr)) = nI (min 99 (e (np F p pc bk) + wr)) := mn_nI (a := 99) (by omega) (by omega)
  let kc := setI kb 110 (128 + 16 * k + np F p pc bk) (nI (min 99 (e (np F p pc bk) + wr)))
  have wc : Wf rb dr jd kc := wb
  let kd := if fr = true then setI kc 110 (296 + k) 1 else kc
  have od : ∀ b i, ¬ (b = 110 ∧ i = 296 + k) → hI kd b i = hI kc b i := fun b i n => by
    show hI (if fr = true then setI kc 110 (296 + k) 1 else kc) b i = _
    split
    · rw [hI_setI, if_neg n]
    · rfl
  have oc : ∀ b i, ¬ (b = 110 ∧ i = 128 + 16 * k + np F p pc bk) → hI kc b i = hI kb b i := fun b i n => by
    show hI (setI kb 110 (128 + 16 * k + np F p pc bk) (nI (min 99 (e (np F p pc bk) + wr)))) b i = _
    rw [hI_setI, if_neg n]
  have rd : ∀ b i, ¬ (b = 109 ∧ i = 36) → ¬ (b = 110 ∧ (i = 264 + k ∨ i = 272 + k ∨ i = 280 + k ∨ i = 288 + k ∨ i = 296 + k ∨ (128 + 16 * k ≤ i ∧ i < 144 + 16 * k))) → hI kd b i = hI k6 b i := fun b i n1 n2 => by
    rw [od b i (by omega), oc b i (by omega), z4 b i (by omega), ra b i n1 (by omega)]
  refine ⟨kd, ?_, ?_, ⟨?_, ?_, ?_, ?_, ?_, ?_, fun i hi => ⟨?_, ?_⟩⟩, ?_, ?_, fun b i n1 n2 n3 n4 => ?_⟩
  · have le := lcg_e hx2
    rw [X85]
    simp (disch := omega) only [↓cd_d, ↓irem_eq_mod, ↓ob_setI, ↓ob_chI, ↓ob_some, bI_some, bV_some, bR_some, bL_some, ob_some, cd_t, cd_f, okO_setI, okA_setI, okL_setI, aLen_setI, hR_setI, hI_setI, Bool.true_and, Bool.and_true, Bool.and_self, Option.isNone_some, Option.isSome_some, Option.isNone_none, Option.isSome_none, okO_chI, okA_chI, okL_chI, aLen_chI, hR_chI, ↓reduceIte, not_true_eq_false, not_false_eq_true, eq_self, c10, Nat.zero_add, nI_add, litA, litB, litM, nI_mul, nI_leI, nI_ltI, nI_eq, litLe, litLe2, litLt, litLt2, litEq, litEq2, in_nI, lit_in, nI_clamp, lit_cl, if_pos, if_neg, ↓WMb w, WMd w, hx, le]
    rw [show setI h 110 305 (nI (lcg x)) = h1 from rfl, X85_14]
    have md := nI_mod (a := lcg x) (b := 10) (by omega) (by omega) (by omega)
    rw [show nI 10 = (10 : Int32) from rfl] at md
    simp (disch := omega) only [↓cd_d, ↓irem_eq_mod, ↓ob_setI, ↓ob_chI, ↓ob_some, bI_some, bV_some, bR_some, bL_some, ob_some, cd_t, cd_f, okO_setI, okA_setI, okL_setI, aLen_setI, hR_setI, hI_setI, Bool.true_and, Bool.and_true, Bool.and_self, Option.isNone_some, Option.isSome_some, Option.isNone_none, Option.isSome_none, okO_chI, okA_chI, okL_chI, aLen_chI, hR_chI, ↓reduceIte, not_true_eq_false, not_false_eq_true, eq_self, c10, Nat.zero_add, nI_add, litA, litB, litM, nI_mul, nI_leI, nI_ltI, nI_eq, litLe, litLe2, litLt, litLt2, litEq, litEq2, in_nI, lit_in, nI_clamp, lit_cl, if_pos, if_neg, ↓WMb w1, WMd w1, x5, md, e2]
    rw [X85_23]
    have n0 : ¬ nI F = 0 := nI_ne0 hF (by omega)
    have g264 : (264 : Int32) + nI k = nI (264 + k) := nI_add 264 k
    have i264 : rz_in (nI (264 + k)) 306 = true := in_nI (by omega) (by omega)
    have c264 : (nI (264 + k)).toNatClampNeg = 264 + k := nI_clamp (by omega)
    have hnv : (if bk = true then (nI p + ((15 : Int32) * nI F - nI pc)) % nI F else (nI p + nI pc) % nI F) = nI (np F p pc bk) := by
      unfold np
      cases bk with
      | false =>
        rw [if_neg (by simp), if_neg (by simp), nI_add, nI_mod (by omega) hF (by omega)]
      | true =>
        rw [if_pos rfl, if_pos rfl, show (15 : Int32) * nI F = nI (15 * F) from nI_mul 15 F, nI_sub (by omega), nI_add, nI_mod (by omega) hF (by omega)]
    have s23 : ∀ X : Option rz_Res, X = rW (d + 4) 85 (69, (0, 0), [some (rz_r (some 109)), some (rz_i (nI k)), some (rz_i (nI pc)), some (rz_i (nI wr)), some (rz_i (bI1 bk)), some (rz_i (bI1 fr)), some (rz_i (nI F)), none], [], k7) → X = some (rz_i 0, kd) := fun X hX => by
      rw [hX, X85_69]
      simp (disch := omega) only [↓cd_d, ↓irem_eq_mod, ↓ob_setI, ↓ob_chI, ↓ob_some, bI_some, bV_some, bR_some, bL_some, ob_some, cd_t, cd_f, okO_setI, okA_setI, okL_setI, aLen_setI, hR_setI, hI_setI, Bool.true_and, Bool.and_true, Bool.and_self, Option.isNone_some, Option.isSome_some, Option.isNone_none, Option.isSome_none, okO_chI, okA_chI, okL_chI, aLen_chI, hR_chI, ↓reduceIte, not_true_eq_false, not_false_eq_true, eq_self, c10, Nat.zero_add, nI_add, litA, litB, litM, nI_mul, nI_leI, nI_ltI, nI_eq, litLe, litLe2, litLt, litLt2, litEq, litEq2, in_nI, lit_in, nI_clamp, lit_cl, if_pos, if_neg, ↓WMb w7, WMd w7]
      rw [show setI k7 110 (288 + k) (nI pc) = k8 from rfl, X85_76]
      simp (disch := omega) only [↓cd_d, ↓irem_eq_mod, ↓ob_setI, ↓ob_chI, ↓ob_some, bI_some, bV_some, bR_some, bL_some, ob_some, cd_t, cd_f, okO_setI, okA_setI, okL_setI, aLen_setI, hR_setI, hI_setI, Bool.true_and, Bool.and_true, Bool.and_self, Option.isNone_some, Option.isSome_some, Option.isNone_none, Option.isSome_none, okO_chI, okA_chI, okL_chI, aLen_chI, hR_chI, ↓reduceIte, not_true_eq_false, not_false_eq_true, eq_self, c10, Nat.zero_add, nI_add, litA, litB, litM, nI_mul, nI_leI, nI_ltI, nI_eq, litLe, litLe2, litLt, litLt2, litEq, litEq2, in_nI, lit_in, nI_clamp, lit_cl, if_pos, if_neg, ↓WMb w8, WMd w8, q8]
      rw [show setI k8 110 (280 + k) (nI (v + pc)) = k9 from rfl, X85_90]
      simp (disch := omega) only [↓cd_d, ↓irem_eq_mod, ↓ob_setI, ↓ob_chI, ↓ob_some, bI_some, bV_some, bR_some, bL_some, ob_some, cd_t, cd_f, okO_setI, okA_setI, okL_setI, aLen_setI, hR_setI, hI_setI, Bool.true_and, Bool.and_true, Bool.and_self, Option.isNone_some, Option.isSome_some, Option.isNone_none, Option.isSome_none, okO_chI, okA_chI, okL_chI, aLen_chI, hR_chI, ↓reduceIte, not_true_eq_false, not_false_eq_true, eq_self, c10, Nat.zero_add, nI_add, litA, litB, litM, nI_mul, nI_leI, nI_ltI, nI_eq, litLe, litLe2, litLt, litLt2, litEq, litEq2, in_nI, lit_in, nI_clamp, lit_cl, if_pos, if_neg, ↓WMb w9, WMd w9, q9]
      rw [show setI k9 109 36 (nI (gn + pc)) = ka from rfl]
      obtain ⟨i2, i4, i7, eb⟩ := eb (some (rz_i (nI pc))) (some (rz_i (bI1 bk))) none
      rw [eb, X85_96]
      simp (disch := omega) only [↓cd_d, ↓irem_eq_mod, ↓ob_setI, ↓ob_chI, ↓ob_some, bI_some, bV_some, bR_some, bL_some, ob_some, cd_t, cd_f, okO_setI, okA_setI, okL_setI, aLen_setI, hR_setI, hI_setI, Bool.true_and, Bool.and_true, Bool.and_self, Option.isNone_some, Option.isSome_some, Option.isNone_none, Option.isSome_none, okO_chI, okA_chI, okL_chI, aLen_chI, hR_chI, ↓reduceIte, not_true_eq_false, not_false_eq_true, eq_self, c10, Nat.zero_add, nI_add, litA, litB, litM, nI_mul, nI_leI, nI_ltI, nI_eq, litLe, litLe2, litLt, litLt2, litEq, litEq2, in_nI, lit_in, nI_clamp, lit_cl, if_pos, if_neg, ↓WMb wb, WMd wb, z2, qb1, qb2, S34, u99]
      rw [show setI kb 110 (128 + 16 * k + np F p pc bk) (nI (min 99 (e (np F p pc bk) + wr))) = kc from rfl, X85_160]
      cases fr with
      | false =>
        simp only [↓cd_d, bI1, Bool.false_eq_true, ↓reduceIte, X85_169]
        rfl
      | true =>
        simp (disch := omega) only [↓cd_d, ↓irem_eq_mod, ↓ob_setI, ↓ob_chI, ↓ob_some, bI_some, bV_some, bR_some, bL_some, ob_some, cd_t, cd_f, okO_setI, okA_setI, okL_setI, aLen_setI, hR_setI, hI_setI, Bool.true_and, Bool.and_true, Bool.and_self, Option.isNone_some, Option.isSome_some, Option.isNone_none, Option.isSome_none, okO_chI, okA_chI, okL_chI, aLen_chI, hR_chI, ↓reduceIte, not_true_eq_false, not_false_eq_true, eq_self, c10, Nat.zero_add, nI_add, litA, litB, litM, nI_mul, nI_leI, nI_ltI, nI_eq, litLe, litLe2, litLt, litLt2, litEq, litEq2, in_nI, lit_in, nI_clamp, lit_cl, if_pos, if_neg, bI1, ↓WMb wc, WMd wc, X85_169]
        rfl
    refine s23 _ ?_
    have e41 := c41 (d + 3)
    have e3' : cW (d + 4) 73 [rz_r (some 109), rz_i 118, rz_i 15] k2 = some (rz_i (nI pc), k3) := e3
    have e4' : cW (d + 4) 73 [rz_r (some 109), rz_i 97, rz_i 99] k3 = some (rz_i (nI wr), k4) := e4
    simp only [↓cd_d, cd_t, bI_some, WMd w2, e3', WMd w3, e4', WMd w4, e5, WMd w5, e6, WMd w6, e41, ↓WMb w6, g264, i264, c264, m2, ↓irem_eq_mod, n0, not_false_eq_true, ↓reduceIte]
    rw [show k7 = setI k6 110 (264 + k) (nI (np F p pc bk)) from rfl, ← hnv]
    cases bk with
    | false => simp only [bI1, Bool.false_eq_true, ↓reduceIte]
    | true => simp only [bI1, ↓reduceIte, c10]
  · have ed : kd.2 = kc.2 := by
      show (if fr = true then setI kc 110 (296 + k) 1 else kc).2 = kc.2
      split <;> rfl
    exact ed.trans (z1.trans (f6.1.trans y1))
  · rw [rd _ _ (by omega) (by omega)]; exact m1
  · rw [od _ _ (by omega), oc _ _ (by omega)]; exact qb1
  · rw [od _ _ (by omega), oc _ _ (by omega)]; exact z3
  · rw [od _ _ (by omega), oc _ _ (by omega)]; exact z2
  · rw [od _ _ (by omega), oc _ _ (by omega), z4 _ _ (by omega)]; exact ra2
  · show hI (if fr = true then setI kc 110 (296 + k) 1 else kc) 110 (296 + k) = nI (if fr = true then 1 else q)
    cases fr with
    | false =>
      show hI kc 110 (296 + k) = nI q
      rw [oc _ _ (by omega), z4 _ _ (by omega), ra _ _ (by omega) (by omega)]; exact m6
    | true =>
      show hI (setI kc 110 (296 + k) 1) 110 (296 + k) = nI 1
      rw [hI_setI, if_pos ⟨rfl, rfl⟩]; rfl
  · have hi : i < F := hi
    rw [rd _ _ (by omega) (by omega)]; exact (m7 i hi).1
  · have hi : i < F := hi
    rw [od _ _ (by omega)]
    show hI (setI kb 110 (128 + 16 * k + np F p pc bk) (nI (min 99 (e (np F p pc bk) + wr)))) 110 (128 + 16 * k + i) = nI (if i = np F p pc bk then min 99 (e (np F p pc bk) + wr) else e i)
    rw [hI_setI]
    by_cases ci : i = np F p pc bk
    · rw [if_pos ⟨rfl, by rw [ci]⟩, if_pos ci]
    · rw [if_neg (fun z => ci (by omega)), if_neg ci, z4 _ _ (by omega), ra _ _ (by omega) (by omega)]; exact (m7 i hi).2
  · rw [rd _ _ (by omega) (by omega), r6 _ _ (by omega) (by omega)]; exact x5
  · rw [od _ _ (by omega), oc _ _ (by omega), z4 _ _ (by omega)]; exact ra4
  · rw [rd b i n3 (by omega), r6 b i n1 n2]
    show hI (setI h 110 305 (nI (lcg x))) b i = _
    rw [hI_setI, if_neg (by omega)]
