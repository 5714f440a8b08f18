/-! what the law says: pace, wear, way, pardon -/
def lnr (h0 : rz_H) : Nat := (hI h0 109 13).toNatClampNeg
def lma (h0 : rz_H) (q : Nat) : Nat := (hI h0 122 q).toNatClampNeg
def lmh (h0 : rz_H) (q : Nat) : Nat := (hI h0 123 q).toNatClampNeg
def lmt (h0 : rz_H) (q : Nat) : Nat := (hI h0 124 q).toNatClampNeg
def tsq (h0 : rz_H) (fa : Nat → Int32) (q : Nat) : Int32 := evq h0 fa (lmh h0 q) (lmt h0 q - lmh h0 q)
def amq (h0 : rz_H) (fa : Nat → Int32) (q : Nat) : Int32 := evq h0 fa (lma h0 q) (lmh h0 q - lma h0 q)
def lwp (h0 : rz_H) (fa : Nat → Int32) (L : Int32) (q : Nat) : Bool := decide (hI h0 121 q = L ∧ tsq h0 fa q = 1)
def lwB (h0 : rz_H) (fa : Nat → Int32) (L : Int32) : Bool := (fst (lwp h0 fa L) 0 (lnr h0)).isSome
def clp (v : Int32) (H : Nat) : Nat := if v < 0 then 0 else min v.toNatClampNeg H
def lvo (h0 : rz_H) (fa : Nat → Int32) (H : Nat) (o : Option Nat) : Nat := match o with
  | some q => clp (amq h0 fa q) H
  | none => 0
def lwV (h0 : rz_H) (fa : Nat → Int32) (L : Int32) (H : Nat) : Nat := lvo h0 fa H (fst (lwp h0 fa L) 0 (lnr h0))
theorem clp_le (v : Int32) (H : Nat) : clp v H ≤ H := by
  unfold clp
  split <;> omega
theorem lwV_le (h0 : rz_H) (fa : Nat → Int32) (L : Int32) (H : Nat) : lwV h0 fa L H ≤ H := by
  unfold lwV lvo
  split
  · exact clp_le _ _
  · omega
theorem clp_m (v : Int32) {H : Nat} (hH : H < 1000) : (if 0 ≤ v then (if v ≤ nI H then v else nI H) else 0) = nI (clp v H) := by
  unfold clp
  by_cases c : v < 0
  · rw [if_pos c, if_neg (Int32.not_le.mpr c)]; rfl
  · rw [if_neg c, if_pos (Int32.not_lt.mp c)]
    obtain ⟨j, hj, rfl⟩ := nI_of c
    rw [nI_clamp hj]
    by_cases c2 : j ≤ H
    · rw [if_pos (nI_le c2 (by omega)), Nat.min_eq_left c2]
    · rw [if_neg (nI_ge (by omega) hj), Nat.min_eq_right (by omega)]
theorem clp_c (v : Int32) {H : Nat} (hH : H < 1000) : mx 0 (mn (nI H) v) = nI (clp v H) := by
  unfold clp mx mn
  by_cases c : v < 0
  · have c2 : v < nI H := Int32.lt_of_lt_of_le c (nI_pos' (by omega))
    rw [if_pos c2, if_pos c, if_neg (fun q => Int32.lt_irrefl (Int32.lt_trans c q))]; rfl
  · rw [if_neg c]
    obtain ⟨j, hj, rfl⟩ := nI_of c
    rw [nI_clamp hj]
    by_cases c2 : j < H
    · rw [if_pos (nI_lt c2 (by omega)), Nat.min_eq_left (by omega)]
      by_cases z : j = 0
      · subst z; rw [if_neg (by decide)]; rfl
      · rw [if_pos (show (0 : Int32) < nI j from nI_lt (a := 0) (b := j) (by omega) hj)]
    · rw [if_neg (nI_nlt (by omega) hj), Nat.min_eq_right (by omega)]
      by_cases z : H = 0
      · subst z; rw [if_neg (by decide)]; rfl
      · rw [if_pos (show (0 : Int32) < nI H from nI_lt (a := 0) (b := H) (by omega) (by omega))]
theorem lwq {h0 : rz_H} {rb : Nat} (R : LwRel h0 rb) : lnr h0 ≤ 16 ∧ hI h0 109 13 = nI (lnr h0) ∧ hI h0 rb 5 = nI (lnr h0) ∧ ∃ st, st ≤ 256 ∧ hI h0 rb 6 = nI st ∧ ∀ q, q < lnr h0 → hI h0 (rb + 1) q = hI h0 121 q ∧ hI h0 122 q = nI (lma h0 q) ∧ hI h0 123 q = nI (lmh h0 q) ∧ hI h0 124 q = nI (lmt h0 q) ∧ lma h0 q ≤ lmh h0 q ∧ lmh h0 q ≤ lmt h0 q ∧ (∃ ct, hI h0 (rb + 3) q = nI ct ∧ CoRel h0 rb ct (lmh h0 q) (lmt h0 q - lmh h0 q) true ∧ ct + (lmt h0 q - lmh h0 q) < st) ∧ ((hI h0 121 q = 118 ∨ hI h0 121 q = 97) → ∃ ca, hI h0 (rb + 2) q = nI ca ∧ CoRel h0 rb ca (lma h0 q) (lmh h0 q - lma h0 q) false ∧ ca + (lmh h0 q - lma h0 q) < st) := by
  obtain ⟨n, st, r1, r2, r3, r4, r5, r6⟩ := R
  have hn : lnr h0 = n := by unfold lnr; rw [r4, nI_clamp (by omega)]
  rw [hn]
  refine ⟨r1, r4, r3, st, r2, r5, fun q hq => ?_⟩
  obtain ⟨ca, ct, ma, mh, mt, a1, a2, a3, a4, a5, a6, a7, a8, a9, a10, a11⟩ := r6 q hq
  have hmt : mt ≤ 260 := by have := a9.2.1; omega
  have e1 : lma h0 q = ma := by unfold lma; rw [a4, nI_clamp (by omega)]
  have e2 : lmh h0 q = mh := by unfold lmh; rw [a5, nI_clamp (by omega)]
  have e3 : lmt h0 q = mt := by unfold lmt; rw [a6, nI_clamp (by omega)]
  rw [e1, e2, e3]
  exact ⟨a1, a4, a5, a6, a7, a8, ⟨ct, a3, a9, a10⟩, fun hl => ⟨ca, a2, (a11 hl).1, (a11 hl).2⟩⟩
/-- the model's side -/
def Ml (h0 : rz_H) (fa : Nat → Int32) (k : rz_H) : Prop := Em h0 fa k ∧ (∀ b i, 121 ≤ b → b ≤ 124 → hI k b i = hI h0 b i) ∧ hI k 109 13 = hI h0 109 13
def Mf (k k' : rz_H) : Prop := k'.2 = k.2 ∧ ∀ b i, b ≠ 125 → hI k' b i = hI k b i
theorem Mf.refl (k : rz_H) : Mf k k := ⟨rfl, fun _ _ _ => rfl⟩
theorem Mf.trans {a b c : rz_H} (x : Mf a b) (y : Mf b c) : Mf a c := ⟨y.1.trans x.1, fun p i h => (y.2 p i h).trans (x.2 p i h)⟩
theorem Ml.mf {h0 : rz_H} {fa : Nat → Int32} {k k' : rz_H} (m : Ml h0 fa k) (f : Mf k k') : Ml h0 fa k' := ⟨⟨fun i => (f.2 _ _ (by omega)).trans (m.1.1 i), fun v hv => (f.2 _ _ (by omega)).trans (m.1.2 v hv)⟩, fun b i h1 h2 => (f.2 _ _ (by omega)).trans (m.2.1 b i h1 h2), (f.2 _ _ (by omega)).trans m.2.2⟩
theorem M73a {rb dr : Nat} {jd : Option Nat} {h0 : rz_H} {fa : Nat → Int32} (R : LwRel h0 rb) {L : Int32} (hL : L = 118 ∨ L = 97) {H : Nat} (hH : H < 1000) (d : Nat) : ∀ c q k j4, q + c = lnr h0 → Wf rb dr jd k → Ml h0 fa k → ∃ k', rW (d + 2) 73 (2, (0, 0), [some (rz_r (some 109)), some (rz_i L), some (rz_i (nI H)), some (rz_i (nI q)), j4], [], k) = some (rz_i (nI (lvo h0 fa H (fst (lwp h0 fa L) q c))), k') ∧ Mf k k' := by
  obtain ⟨r1, r2, -, st, -, -, r6⟩ := lwq R
  intro c
  induction c with
  | zero =>
    intro q k j4 hq w m
    have e13 := m.2.2.trans r2
    refine ⟨k, ?_, Mf.refl k⟩
    rw [E73_2]
    simp (disch := omega) only [↓cd_d, ↓irem_eq_mod, ↓ob_setI, ↓ob_chI, ↓ob_some, bI_some, bV_some, bR_some, bL_some, ob_some, cd_t, cd_f, okO_setI, okA_setI, okL_setI, aLen_setI, hR_setI, hI_setI, Bool.true_and, Bool.and_true, Bool.and_self, Option.isNone_some, Option.isSome_some, Option.isNone_none, Option.isSome_none, okO_chI, okA_chI, okL_chI, aLen_chI, hR_chI, ↓reduceIte, not_true_eq_false, not_false_eq_true, eq_self, c10, Nat.zero_add, nI_add, litA, litB, litM, nI_mul, nI_leI, nI_ltI, nI_eq, litLe, litLe2, litLt, litLt2, litEq, litEq2, in_nI, lit_in, nI_clamp, lit_cl, if_pos, if_neg, ↓WMb w, WMd w, e13]
    rfl
  | succ c ih =>
    intro q k j4 hq w m
    have e13 := m.2.2.trans r2
    obtain ⟨a1, a2, a3, a4, a5, a6, ⟨ct, a7, a8, a9⟩, a10⟩ := r6 q (by omega)
    have f1 := m.2.1 121 q (by omega) (by omega)
    have f2 := (m.2.1 122 q (by omega) (by omega)).trans a2
    have f3 := (m.2.1 123 q (by omega) (by omega)).trans a3
    have f4 := (m.2.1 124 q (by omega) (by omega)).trans a4
    have hmt : lmt h0 q ≤ 260 := by have := a8.2.1; omega
    by_cases hl : hI h0 121 q = L
    · obtain ⟨k1, e1, x1, x2⟩ := M72 w a8 m.1 d
      rw [show lmh h0 q + (lmt h0 q - lmh h0 q) = lmt h0 q by omega] at e1
      have mf1 : Mf k k1 := ⟨x1, x2⟩
      have w1 : Wf rb dr jd k1 := w.e x1
      have m1 := m.mf mf1
      have g2 := (m1.2.1 122 q (by omega) (by omega)).trans a2
      have g3 := (m1.2.1 123 q (by omega) (by omega)).trans a3
      by_cases ht : tsq h0 fa q = 1
      · have hp : lwp h0 fa L q = true := decide_eq_true ⟨hl, ht⟩
        obtain ⟨ca, b1, b2, b3⟩ := a10 (by rw [hl]; exact hL)
        obtain ⟨k2, e2, y1, y2⟩ := M72 w1 b2 m1.1 d
        rw [show lma h0 q + (lmh h0 q - lma h0 q) = lmh h0 q by omega] at e2
        refine ⟨k2, ?_, mf1.trans ⟨y1, y2⟩⟩
        have hf : fst (lwp h0 fa L) q (c + 1) = some q := by unfold fst; rw [if_pos hp]
        rw [hf, E73_2]
        have e1 : cW (d + 2) 72 [rz_r (some 109), rz_i (nI (lmh h0 q)), rz_i (nI (lmt h0 q))] k = some (rz_i (tsq h0 fa q), k1) := e1
        have e2 : cW (d + 2) 72 [rz_r (some 109), rz_i (nI (lma h0 q)), rz_i (nI (lmh h0 q))] k1 = some (rz_i (amq h0 fa q), k2) := e2
        simp (disch := omega) only [↓cd_d, ↓irem_eq_mod, ↓ob_setI, ↓ob_chI, ↓ob_some, bI_some, bV_some, bR_some, bL_some, ob_some, cd_t, cd_f, okO_setI, okA_setI, okL_setI, aLen_setI, hR_setI, hI_setI, Bool.true_and, Bool.and_true, Bool.and_self, Option.isNone_some, Option.isSome_some, Option.isNone_none, Option.isSome_none, okO_chI, okA_chI, okL_chI, aLen_chI, hR_chI, ↓reduceIte, not_true_eq_false, not_false_eq_true, eq_self, c10, Nat.zero_add, nI_add, litA, litB, litM, nI_mul, nI_leI, nI_ltI, nI_eq, litLe, litLe2, litLt, litLt2, litEq, litEq2, in_nI, lit_in, nI_clamp, lit_cl, if_pos, if_neg, ↓WMb w, WMd w, e13, f1, hl, f3, f4, e1, ht, ↓WMb w1, WMd w1, g2, g3, e2]
        have := clp_m (amq h0 fa q) hH
        show _ = some (rz_i (nI (clp (amq h0 fa q) H)), k2)
        rw [← this]
        by_cases c1 : 0 ≤ amq h0 fa q
        · by_cases c2 : amq h0 fa q ≤ nI H
          · simp only [if_pos c1, if_pos c2]
          · simp only [if_pos c1, if_neg c2]
        · simp only [if_neg c1]
      · have hp : ¬ lwp h0 fa L q = true := fun z => ht (of_decide_eq_true z).2
        obtain ⟨k2, e2, y⟩ := ih (q + 1) k1 none (by omega) w1 m1
        refine ⟨k2, ?_, mf1.trans y⟩
        have hf : fst (lwp h0 fa L) q (c + 1) = fst (lwp h0 fa L) (q + 1) c := by rw [fst, if_neg hp]
        rw [hf, E73_2]
        have e1 : cW (d + 2) 72 [rz_r (some 109), rz_i (nI (lmh h0 q)), rz_i (nI (lmt h0 q))] k = some (rz_i (tsq h0 fa q), k1) := e1
        simp (disch := omega) only [↓cd_d, ↓irem_eq_mod, ↓ob_setI, ↓ob_chI, ↓ob_some, bI_some, bV_some, bR_some, bL_some, ob_some, cd_t, cd_f, okO_setI, okA_setI, okL_setI, aLen_setI, hR_setI, hI_setI, Bool.true_and, Bool.and_true, Bool.and_self, Option.isNone_some, Option.isSome_some, Option.isNone_none, Option.isSome_none, okO_chI, okA_chI, okL_chI, aLen_chI, hR_chI, ↓reduceIte, not_true_eq_false, not_false_eq_true, eq_self, c10, Nat.zero_add, nI_add, litA, litB, litM, nI_mul, nI_leI, nI_ltI, nI_eq, litLe, litLe2, litLt, litLt2, litEq, litEq2, in_nI, lit_in, nI_clamp, lit_cl, if_pos, if_neg, ↓WMb w, WMd w, e13, f1, hl, f3, f4, e1, ht]
        exact e2
    · have hp : ¬ lwp h0 fa L q = true := fun z => hl (of_decide_eq_true z).1
      obtain ⟨k2, e2, y⟩ := ih (q + 1) k none (by omega) w m
      refine ⟨k2, ?_, y⟩
      have hf : fst (lwp h0 fa L) q (c + 1) = fst (lwp h0 fa L) (q + 1) c := by rw [fst, if_neg hp]
      rw [hf, E73_2]
      simp (disch := omega) only [↓cd_d, ↓irem_eq_mod, ↓ob_setI, ↓ob_chI, ↓ob_some, bI_some, bV_some, bR_some, bL_some, ob_some, cd_t, cd_f, okO_setI, okA_setI, okL_setI, aLen_setI, hR_setI, hI_setI, Bool.true_and, Bool.and_true, Bool.and_self, Option.isNone_some, Option.isSome_some, Option.isNone_none, Option.isSome_none, okO_chI, okA_chI, okL_chI, aLen_chI, hR_chI, ↓reduceIte, not_true_eq_false, not_false_eq_true, eq_self, c10, Nat.zero_add, nI_add, litA, litB, litM, nI_mul, nI_leI, nI_ltI, nI_eq, litLe, litLe2, litLt, litLt2, litEq, litEq2, in_nI, lit_in, nI_clamp, lit_cl, if_pos, if_neg, ↓WMb w, WMd w, e13, f1, hl]
      exact e2
theorem M73 {rb dr : Nat} {jd : Option Nat} {h : rz_H} (w : Wf rb dr jd h) {h0 : rz_H} {fa : Nat → Int32} (R : LwRel h0 rb) {L : Int32} (hL : L = 118 ∨ L = 97) {H : Nat} (hH : H < 1000) (m : Ml h0 fa h) (d : Nat) : ∃ k', cW (d + 3) 73 [rz_r (some 109), rz_i L, rz_i (nI H)] h = some (rz_i (nI (lwV h0 fa L H)), k') ∧ Mf h k' := by
  rw [E73]
  exact M73a R hL hH d _ 0 h none (by omega) w m
theorem M74a {rb dr : Nat} {jd : Option Nat} {h0 : rz_H} {fa : Nat → Int32} (R : LwRel h0 rb) (L : Int32) (d : Nat) : ∀ c q k, q + c = lnr h0 → Wf rb dr jd k → Ml h0 fa k → ∃ k', rW (d + 2) 74 (2, (0, 0), [some (rz_r (some 109)), some (rz_i L), some (rz_i (nI q))], [], k) = some (rz_i (bI1 (fst (lwp h0 fa L) q c).isSome), k') ∧ Mf k k' := by
  obtain ⟨r1, r2, -, st, -, -, r6⟩ := lwq R
  intro c
  induction c with
  | zero =>
    intro q k hq w m
    have e13 := m.2.2.trans r2
    refine ⟨k, ?_, Mf.refl k⟩
    rw [E74_2]
    simp (disch := omega) only [↓cd_d, ↓irem_eq_mod, ↓ob_setI, ↓ob_chI, ↓ob_some, bI_some, bV_some, bR_some, bL_some, ob_some, cd_t, cd_f, okO_setI, okA_setI, okL_setI, aLen_setI, hR_setI, hI_setI, Bool.true_and, Bool.and_true, Bool.and_self, Option.isNone_some, Option.isSome_some, Option.isNone_none, Option.isSome_none, okO_chI, okA_chI, okL_chI, aLen_chI, hR_chI, ↓reduceIte, not_true_eq_false, not_false_eq_true, eq_self, c10, Nat.zero_add, nI_add, litA, litB, litM, nI_mul, nI_leI, nI_ltI, nI_eq, litLe, litLe2, litLt, litLt2, litEq, litEq2, in_nI, lit_in, nI_clamp, lit_cl, if_pos, if_neg, ↓WMb w, WMd w, e13]
    rfl
  | succ c ih =>
    intro q k hq w m
    have e13 := m.2.2.trans r2
    obtain ⟨a1, a2, a3, a4, a5, a6, ⟨ct, a7, a8, a9⟩, -⟩ := r6 q (by omega)
    have f1 := m.2.1 121 q (by omega) (by omega)
    have f3 := (m.2.1 123 q (by omega) (by omega)).trans a3
    have f4 := (m.2.1 124 q (by omega) (by omega)).trans a4
    have hmt : lmt h0 q ≤ 260 := by have := a8.2.1; omega
    by_cases hl : hI h0 121 q = L
    · obtain ⟨k1, e1, x1, x2⟩ := M72 w a8 m.1 d
      rw [show lmh h0 q + (lmt h0 q - lmh h0 q) = lmt h0 q by omega] at e1
      have e1 : cW (d + 2) 72 [rz_r (some 109), rz_i (nI (lmh h0 q)), rz_i (nI (lmt h0 q))] k = some (rz_i (tsq h0 fa q), k1) := e1
      have mf1 : Mf k k1 := ⟨x1, x2⟩
      have w1 : Wf rb dr jd k1 := w.e x1
      by_cases ht : tsq h0 fa q = 1
      · have hp : lwp h0 fa L q = true := decide_eq_true ⟨hl, ht⟩
        refine ⟨k1, ?_, mf1⟩
        have hf : fst (lwp h0 fa L) q (c + 1) = some q := by unfold fst; rw [if_pos hp]
        rw [hf, E74_2]
        simp (disch := omega) only [↓cd_d, ↓irem_eq_mod, ↓ob_setI, ↓ob_chI, ↓ob_some, bI_some, bV_some, bR_some, bL_some, ob_some, cd_t, cd_f, okO_setI, okA_setI, okL_setI, aLen_setI, hR_setI, hI_setI, Bool.true_and, Bool.and_true, Bool.and_self, Option.isNone_some, Option.isSome_some, Option.isNone_none, Option.isSome_none, okO_chI, okA_chI, okL_chI, aLen_chI, hR_chI, ↓reduceIte, not_true_eq_false, not_false_eq_true, eq_self, c10, Nat.zero_add, nI_add, litA, litB, litM, nI_mul, nI_leI, nI_ltI, nI_eq, litLe, litLe2, litLt, litLt2, litEq, litEq2, in_nI, lit_in, nI_clamp, lit_cl, if_pos, if_neg, ↓WMb w, WMd w, e13, f1, hl, f3, f4, e1, ht]
        rfl
      · have hp : ¬ lwp h0 fa L q = true := fun z => ht (of_decide_eq_true z).2
        obtain ⟨k2, e2, y⟩ := ih (q + 1) k1 (by omega) w1 (m.mf mf1)
        refine ⟨k2, ?_, mf1.trans y⟩
        have hf : fst (lwp h0 fa L) q (c + 1) = fst (lwp h0 fa L) (q + 1) c := by rw [fst, if_neg hp]
        rw [hf, E74_2]
        simp (disch := omega) only [↓cd_d, ↓irem_eq_mod, ↓ob_setI, ↓ob_chI, ↓ob_some, bI_some, bV_some, bR_some, bL_some, ob_some, cd_t, cd_f, okO_setI, okA_setI, okL_setI, aLen_setI, hR_setI, hI_setI, Bool.true_and, Bool.and_true, Bool.and_self, Option.isNone_some, Option.isSome_some, Option.isNone_none, Option.isSome_none, okO_chI, okA_chI, okL_chI, aLen_chI, hR_chI, ↓reduceIte, not_true_eq_false, not_false_eq_true, eq_self, c10, Nat.zero_add, nI_add, litA, litB, litM, nI_mul, nI_leI, nI_ltI, nI_eq, litLe, litLe2, litLt, litLt2, litEq, litEq2, in_nI, lit_in, nI_clamp, lit_cl, if_pos, if_neg, ↓WMb w, WMd w, e13, f1, hl, f3, f4, e1, ht]
        exact e2
    · have hp : ¬ lwp h0 fa L q = true := fun z => hl (of_decide_eq_true z).1
      obtain ⟨k2, e2, y⟩ := ih (q + 1) k (by omega) w m
      refine ⟨k2, ?_, y⟩
      have hf : fst (lwp h0 fa L) q (c + 1) = fst (lwp h0 fa L) (q + 1) c := by rw [fst, if_neg hp]
      rw [hf, E74_2]
      simp (disch := omega) only [↓cd_d, ↓irem_eq_mod, ↓ob_setI, ↓ob_chI, ↓ob_some, bI_some, bV_some, bR_some, bL_some, ob_some, cd_t, cd_f, okO_setI, okA_setI, okL_setI, aLen_setI, hR_setI, hI_setI, Bool.true_and, Bool.and_true, Bool.and_self, Option.isNone_some, Option.isSome_some, Option.isNone_none, Option.isSome_none, okO_chI, okA_chI, okL_chI, aLen_chI, hR_chI, ↓reduceIte, not_true_eq_false, not_false_eq_true, eq_self, c10, Nat.zero_add, nI_add, litA, litB, litM, nI_mul, nI_leI, nI_ltI, nI_eq, litLe, litLe2, litLt, litLt2, litEq, litEq2, in_nI, lit_in, nI_clamp, lit_cl, if_pos, if_neg, ↓WMb w, WMd w, e13, f1, hl]
      exact e2
theorem M74 {rb dr : Nat} {jd : Option Nat} {h : rz_H} (w : Wf rb dr jd h) {h0 : rz_H} {fa : Nat → Int32} (R : LwRel h0 rb) (L : Int32) (m : Ml h0 fa h) (d : Nat) : ∃ k', cW (d + 3) 74 [rz_r (some 109), rz_i L] h = some (rz_i (bI1 (lwB h0 fa L)), k') ∧ Mf h k' := by
  rw [E74]
  exact M74a R L d _ 0 h (by omega) w m
/-- the class's side -/
def lkd (fa : Nat → Int32) (k0 : rz_H) : Prop := ∀ k, Jf k0 k → ∀ v, v < 9 → ∀ d, cW (d + 2) 173 [rz_r (some 95), rz_i (nI (ltr v))] k = some (rz_i (fa v), k)
theorem lkd.jf {fa : Nat → Int32} {k k' : rz_H} (l : lkd fa k) (j : Jf k k') : lkd fa k' := fun x hx => l x (j.trans hx)
def Ecl (h0 : rz_H) (rb : Nat) (k : rz_H) : Prop := ∀ b i, rb ≤ b → b < rb + 6 → hI k b i = hI h0 b i
theorem Ecl.jf {h0 : rz_H} {rb : Nat} {k k' : rz_H} (hr : rb = 82 ∨ rb = 96) (l : Ecl h0 rb k) (j : Jf k k') : Ecl h0 rb k' := fun b i h1 h2 => (j.2 b i (by omega) (by omega)).trans (l b i h1 h2)
theorem C168a {rb dr : Nat} {jd : Option Nat} {h0 : rz_H} {fa : Nat → Int32} (R : LwRel h0 rb) {L : Int32} (hL : L = 118 ∨ L = 97) {H : Nat} (hH : H < 1000) (d : Nat) : ∀ c q k, q + c = lnr h0 → Wf rb dr jd k → Ecl h0 rb k → lkd fa k → ∃ k', rW (d + 4) 168 (2, (0, 0), [some (rz_r (some 95)), some (rz_i L), some (rz_i (nI H)), some (rz_i (nI q))], [], k) = some (rz_i (nI (lvo h0 fa H (fst (lwp h0 fa L) q c))), k') ∧ Jf k k' := by
  obtain ⟨r1, -, r3, st, r4, r5, r6⟩ := lwq R
  intro c
  induction c with
  | zero =>
    intro q k hq w E l
    have hW : isW rb := by rcases lw_rb w with ⟨e, -⟩ | ⟨e, -⟩ <;> subst e <;> unfold isW <;> omega
    have e5 := (E rb 5 (by omega) (by omega)).trans r3
    have c194 := C194 w hW
    rw [e5] at c194
    refine ⟨k, ?_, Jf.refl k⟩
    rw [E168_2]
    simp (disch := omega) only [↓cd_d, ↓irem_eq_mod, ↓ob_setI, ↓ob_chI, ↓ob_some, bI_some, bV_some, bR_some, bL_some, ob_some, cd_t, cd_f, okO_setI, okA_setI, okL_setI, aLen_setI, hR_setI, hI_setI, Bool.true_and, Bool.and_true, Bool.and_self, Option.isNone_some, Option.isSome_some, Option.isNone_none, Option.isSome_none, okO_chI, okA_chI, okL_chI, aLen_chI, hR_chI, ↓reduceIte, not_true_eq_false, not_false_eq_true, eq_self, c10, Nat.zero_add, nI_add, litA, litB, litM, nI_mul, nI_leI, nI_ltI, nI_eq, litLe, litLe2, litLt, litLt2, litEq, litEq2, in_nI, lit_in, nI_clamp, lit_cl, if_pos, if_neg, ↓WJb w, WJg w, WLw w hW, c194]
    rfl
  | succ c ih =>
    intro q k hq w E l
    have hW : isW rb := by rcases lw_rb w with ⟨e, -⟩ | ⟨e, -⟩ <;> subst e <;> unfold isW <;> omega
    have e5 := (E rb 5 (by omega) (by omega)).trans r3
    have c194 := C194 w hW
    rw [e5] at c194
    obtain ⟨a1, a2, a3, a4, a5, a6, ⟨ct, a7, a8, a9⟩, a10⟩ := r6 q (by omega)
    have c199 := C199 w hW (i := q) (by omega)
    rw [E (rb + 1) q (by omega) (by omega), a1] at c199
    have c201 := C201 w hW (i := q) (by omega)
    rw [E (rb + 3) q (by omega) (by omega), a7] at c201
    by_cases hl : hI h0 121 q = L
    · obtain ⟨k1, e1, j1⟩ := C170 w E r5 r4 a9 a8 l d
      have e1 : cW (d + 4) 170 [rz_r (some 95), rz_i (nI ct)] k = some (rz_i (tsq h0 fa q), k1) := e1
      have w1 : Wf rb dr jd k1 := w.e j1.1
      have E1 := E.jf hW j1
      have t01 : tsq h0 fa q = 0 ∨ tsq h0 fa q = 1 := evq_01 a8 fa
      by_cases ht : tsq h0 fa q = 1
      · have hp : lwp h0 fa L q = true := decide_eq_true ⟨hl, ht⟩
        obtain ⟨ca, b1, b2, b3⟩ := a10 (by rw [hl]; exact hL)
        have c200 := C200 w1 hW (i := q) (by omega)
        rw [E1 (rb + 2) q (by omega) (by omega), b1] at c200
        obtain ⟨k2, e2, j2⟩ := C170 w1 E1 r5 r4 b3 b2 (l.jf j1) d
        have e2 : cW (d + 4) 170 [rz_r (some 95), rz_i (nI ca)] k1 = some (rz_i (amq h0 fa q), k2) := e2
        refine ⟨k2, ?_, j1.trans j2⟩
        have hf : fst (lwp h0 fa L) q (c + 1) = some q := by unfold fst; rw [if_pos hp]
        rw [hf, E168_2]
        have := clp_c (amq h0 fa q) hH
        show _ = some (rz_i (nI (clp (amq h0 fa q) H)), k2)
        rw [← this]
        simp (disch := omega) only [↓cd_d, ↓irem_eq_mod, ↓ob_setI, ↓ob_chI, ↓ob_some, bI_some, bV_some, bR_some, bL_some, ob_some, cd_t, cd_f, okO_setI, okA_setI, okL_setI, aLen_setI, hR_setI, hI_setI, Bool.true_and, Bool.and_true, Bool.and_self, Option.isNone_some, Option.isSome_some, Option.isNone_none, Option.isSome_none, okO_chI, okA_chI, okL_chI, aLen_chI, hR_chI, ↓reduceIte, not_true_eq_false, not_false_eq_true, eq_self, c10, Nat.zero_add, nI_add, litA, litB, litM, nI_mul, nI_leI, nI_ltI, nI_eq, litLe, litLe2, litLt, litLt2, litEq, litEq2, in_nI, lit_in, nI_clamp, lit_cl, if_pos, if_neg, ↓WJb w, WJg w, WLw w hW, c194, c199, hl, c201, e1, ht, ↓WJb w1, WJg w1, WLw w1 hW, c200, e2, T277, T278]
      · have hp : ¬ lwp h0 fa L q = true := fun z => ht (of_decide_eq_true z).2
        have ht0 := t01.resolve_right ht
        obtain ⟨k2, e2, y⟩ := ih (q + 1) k1 (by omega) w1 E1 (l.jf j1)
        refine ⟨k2, ?_, j1.trans y⟩
        have hf : fst (lwp h0 fa L) q (c + 1) = fst (lwp h0 fa L) (q + 1) c := by rw [fst, if_neg hp]
        rw [hf, E168_2]
        simp (disch := omega) only [↓cd_d, ↓irem_eq_mod, ↓ob_setI, ↓ob_chI, ↓ob_some, bI_some, bV_some, bR_some, bL_some, ob_some, cd_t, cd_f, okO_setI, okA_setI, okL_setI, aLen_setI, hR_setI, hI_setI, Bool.true_and, Bool.and_true, Bool.and_self, Option.isNone_some, Option.isSome_some, Option.isNone_none, Option.isSome_none, okO_chI, okA_chI, okL_chI, aLen_chI, hR_chI, ↓reduceIte, not_true_eq_false, not_false_eq_true, eq_self, c10, Nat.zero_add, nI_add, litA, litB, litM, nI_mul, nI_leI, nI_ltI, nI_eq, litLe, litLe2, litLt, litLt2, litEq, litEq2, in_nI, lit_in, nI_clamp, lit_cl, if_pos, if_neg, ↓WJb w, WJg w, WLw w hW, c194, c199, hl, c201, e1, ht0]
        exact e2
    · have hp : ¬ lwp h0 fa L q = true := fun z => hl (of_decide_eq_true z).1
      obtain ⟨k2, e2, y⟩ := ih (q + 1) k (by omega) w E l
      refine ⟨k2, ?_, y⟩
      have hf : fst (lwp h0 fa L) q (c + 1) = fst (lwp h0 fa L) (q + 1) c := by rw [fst, if_neg hp]
      rw [hf, E168_2]
      simp (disch := omega) only [↓cd_d, ↓irem_eq_mod, ↓ob_setI, ↓ob_chI, ↓ob_some, bI_some, bV_some, bR_some, bL_some, ob_some, cd_t, cd_f, okO_setI, okA_setI, okL_setI, aLen_setI, hR_setI, hI_setI, Bool.true_and, Bool.and_true, Bool.and_self, Option.isNone_some, Option.isSome_some, Option.isNone_none, Option.isSome_none, okO_chI, okA_chI, okL_chI, aLen_chI, hR_chI, ↓reduceIte, not_true_eq_false, not_false_eq_true, eq_self, c10, Nat.zero_add, nI_add, litA, litB, litM, nI_mul, nI_leI, nI_ltI, nI_eq, litLe, litLe2, litLt, litLt2, litEq, litEq2, in_nI, lit_in, nI_clamp, lit_cl, if_pos, if_neg, ↓WJb w, WJg w, WLw w hW, c194, c199, hl]
      exact e2
theorem C168 {rb dr : Nat} {jd : Option Nat} {h : rz_H} (w : Wf rb dr jd h) {h0 : rz_H} {fa : Nat → Int32} (R : LwRel h0 rb) {L : Int32} (hL : L = 118 ∨ L = 97) {H : Nat} (hH : H < 1000) (E : Ecl h0 rb h) (l : lkd fa h) (d : Nat) : ∃ k', cW (d + 5) 168 [rz_r (some 95), rz_i L, rz_i (nI H)] h = some (rz_i (nI (lwV h0 fa L H)), k') ∧ Jf h k' := by
  rw [E168]
  exact C168a R hL hH d _ 0 h (by omega) w E l
theorem C169a {rb dr : Nat} {jd : Option Nat} {h0 : rz_H} {fa : Nat → Int32} (R : LwRel h0 rb) (L : Int32) (d : Nat) : ∀ c q k, q + c = lnr h0 → Wf rb dr jd k → Ecl h0 rb k → lkd fa k → ∃ k', rW (d + 4) 169 (2, (0, 0), [some (rz_r (some 95)), some (rz_i L), some (rz_i (nI q))], [], k) = some (rz_i (bI1 (fst (lwp h0 fa L) q c).isSome), k') ∧ Jf k k' := by
  obtain ⟨r1, -, r3, st, r4, r5, r6⟩ := lwq R
  intro c
  induction c with
  | zero =>
    intro q k hq w E l
    have hW : isW rb := by rcases lw_rb w with ⟨e, -⟩ | ⟨e, -⟩ <;> subst e <;> unfold isW <;> omega
    have e5 := (E rb 5 (by omega) (by omega)).trans r3
    have c194 := C194 w hW
    rw [e5] at c194
    refine ⟨k, ?_, Jf.refl k⟩
    rw [E169_2]
    simp (disch := omega) only [↓cd_d, ↓irem_eq_mod, ↓ob_setI, ↓ob_chI, ↓ob_some, bI_some, bV_some, bR_some, bL_some, ob_some, cd_t, cd_f, okO_setI, okA_setI, okL_setI, aLen_setI, hR_setI, hI_setI, Bool.true_and, Bool.and_true, Bool.and_self, Option.isNone_some, Option.isSome_some, Option.isNone_none, Option.isSome_none, okO_chI, okA_chI, okL_chI, aLen_chI, hR_chI, ↓reduceIte, not_true_eq_false, not_false_eq_true, eq_self, c10, Nat.zero_add, nI_add, litA, litB, litM, nI_mul, nI_leI, nI_ltI, nI_eq, litLe, litLe2, litLt, litLt2, litEq, litEq2, in_nI, lit_in, nI_clamp, lit_cl, if_pos, if_neg, ↓WJb w, WJg w, WLw w hW, c194]
    rfl
  | succ c ih =>
    intro q k hq w E l
    have hW : isW rb := by rcases lw_rb w with ⟨e, -⟩ | ⟨e, -⟩ <;> subst e <;> unfold isW <;> omega
    have e5 := (E rb 5 (by omega) (by omega)).trans r3
    have c194 := C194 w hW
    rw [e5] at c194
    obtain ⟨a1, a2, a3, a4, a5, a6, ⟨ct, a7, a8, a9⟩, a10⟩ := r6 q (by omega)
    have c199 := C199 w hW (i := q) (by omega)
    rw [E (rb + 1) q (by omega) (by omega), a1] at c199
    have c201 := C201 w hW (i := q) (by omega)
    rw [E (rb + 3) q (by omega) (by omega), a7] at c201
    by_cases hl : hI h0 121 q = L
    · obtain ⟨k1, e1, j1⟩ := C170 w E r5 r4 a9 a8 l d
      have e1 : cW (d + 4) 170 [rz_r (some 95), rz_i (nI ct)] k = some (rz_i (tsq h0 fa q), k1) := e1
      have w1 : Wf rb dr jd k1 := w.e j1.1
      have E1 := E.jf hW j1
      have t01 : tsq h0 fa q = 0 ∨ tsq h0 fa q = 1 := evq_01 a8 fa
      by_cases ht : tsq h0 fa q = 1
      · have hp : lwp h0 fa L q = true := decide_eq_true ⟨hl, ht⟩
        refine ⟨k1, ?_, j1⟩
        have hf : fst (lwp h0 fa L) q (c + 1) = some q := by unfold fst; rw [if_pos hp]
        rw [hf, E169_2]
        simp (disch := omega) only [↓cd_d, ↓irem_eq_mod, ↓ob_setI, ↓ob_chI, ↓ob_some, bI_some, bV_some, bR_some, bL_some, ob_some, cd_t, cd_f, okO_setI, okA_setI, okL_setI, aLen_setI, hR_setI, hI_setI, Bool.true_and, Bool.and_true, Bool.and_self, Option.isNone_some, Option.isSome_some, Option.isNone_none, Option.isSome_none, okO_chI, okA_chI, okL_chI, aLen_chI, hR_chI, ↓reduceIte, not_true_eq_false, not_false_eq_true, eq_self, c10, Nat.zero_add, nI_add, litA, litB, litM, nI_mul, nI_leI, nI_ltI, nI_eq, litLe, litLe2, litLt, litLt2, litEq, litEq2, in_nI, lit_in, nI_clamp, lit_cl, if_pos, if_neg, ↓WJb w, WJg w, WLw w hW, c194, c199, hl, c201, e1, ht]
        rfl
      · have hp : ¬ lwp h0 fa L q = true := fun z => ht (of_decide_eq_true z).2
        have ht0 := t01.resolve_right ht
        obtain ⟨k2, e2, y⟩ := ih (q + 1) k1 (by omega) w1 E1 (l.jf j1)
        refine ⟨k2, ?_, j1.trans y⟩
        have hf : fst (lwp h0 fa L) q (c + 1) = fst (lwp h0 fa L) (q + 1) c := by rw [fst, if_neg hp]
        rw [hf, E169_2]
        simp (disch := omega) only [↓cd_d, ↓irem_eq_mod, ↓ob_setI, ↓ob_chI, ↓ob_some, bI_some, bV_some, bR_some, bL_some, ob_some, cd_t, cd_f, okO_setI, okA_setI, okL_setI, aLen_setI, hR_setI, hI_setI, Bool.true_and, Bool.and_true, Bool.and_self, Option.isNone_some, Option.isSome_some, Option.isNone_none, Option.isSome_none, okO_chI, okA_chI, okL_chI, aLen_chI, hR_chI, ↓reduceIte, not_true_eq_false, not_false_eq_true, eq_self, c10, Nat.zero_add, nI_add, litA, litB, litM, nI_mul, nI_leI, nI_ltI, nI_eq, litLe, litLe2, litLt, litLt2, litEq, litEq2, in_nI, lit_in, nI_clamp, lit_cl, if_pos, if_neg, ↓WJb w, WJg w, WLw w hW, c194, c199, hl, c201, e1, ht0]
        exact e2
    · have hp : ¬ lwp h0 fa L q = true := fun z => hl (of_decide_eq_true z).1
      obtain ⟨k2, e2, y⟩ := ih (q + 1) k (by omega) w E l
      refine ⟨k2, ?_, y⟩
      have hf : fst (lwp h0 fa L) q (c + 1) = fst (lwp h0 fa L) (q + 1) c := by rw [fst, if_neg hp]
      rw [hf, E169_2]
      simp (disch := omega) only [↓cd_d, ↓irem_eq_mod, ↓ob_setI, ↓ob_chI, ↓ob_some, bI_some, bV_some, bR_some, bL_some, ob_some, cd_t, cd_f, okO_setI, okA_setI, okL_setI, aLen_setI, hR_setI, hI_setI, Bool.true_and, Bool.and_true, Bool.and_self, Option.isNone_some, Option.isSome_some, Option.isNone_none, Option.isSome_none, okO_chI, okA_chI, okL_chI, aLen_chI, hR_chI, ↓reduceIte, not_true_eq_false, not_false_eq_true, eq_self, c10, Nat.zero_add, nI_add, litA, litB, litM, nI_mul, nI_leI, nI_ltI, nI_eq, litLe, litLe2, litLt, litLt2, litEq, litEq2, in_nI, lit_in, nI_clamp, lit_cl, if_pos, if_neg, ↓WJb w, WJg w, WLw w hW, c194, c199, hl]
      exact e2
theorem C169 {rb dr : Nat} {jd : Option Nat} {h : rz_H} (w : Wf rb dr jd h) {h0 : rz_H} {fa : Nat → Int32} (R : LwRel h0 rb) (L : Int32) (E : Ecl h0 rb h) (l : lkd fa h) (d : Nat) : ∃ k', cW (d + 5) 169 [rz_r (some 95), rz_i L] h = some (rz_i (bI1 (lwB h0 fa L)), k') ∧ Jf h k' := by
  rw [E169]
  exact C169a R L d _ 0 h (by omega) w E l
