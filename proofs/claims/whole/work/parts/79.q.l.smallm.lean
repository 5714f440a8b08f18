/-! the law's text: the model's small ones -/
theorem K53l {rb dr : Nat} {jd : Option Nat} {h0 : rz_H} (w0 : Wf rb dr jd h0) {N : Nat} {t : Nat → Nat} {L : Nat} {p0 : Nat} (hp0 : p0 < 900) (d : Nat) : ∀ c i h p v, i + c = 5 → p = p0 + i → Fm h0 h → MT h N t L p → hI h 109 8 = nI v → p ≤ L → L < 900 → ∃ h', Fm h0 h' ∧ ((dgT t L (rdn t L c p v).1 = true ∧ rW (d + 2) 53 (6, (0, 0), [some (rz_r (some 109)), some (rz_i (nI p0))], [], h) = some (rz_i 0, h') ∧ hI h' 109 7 = erI 2 (rdn t L c p v).1) ∨ (¬ dgT t L (rdn t L c p v).1 = true ∧ rW (d + 2) 53 (6, (0, 0), [some (rz_r (some 109)), some (rz_i (nI p0))], [], h) = some (rz_i 1, h') ∧ MT h' N t L (rdn t L c p v).1 ∧ hI h' 109 8 = nI (rdn t L c p v).2)) := by
  intro c
  induction c with
  | zero =>
    intro i h p v hi hp f m e8 hpL hL
    have w : Wf rb dr jd h := w0.e f.1
    by_cases q : dgT t L p = true
    · refine ⟨setI h 109 7 (erI 2 p), f.tr (Fm.one (by omega) _), Or.inl ⟨q, ?_, by rw [hI_setI, if_pos ⟨rfl, rfl⟩]; rfl⟩⟩
      have k51 := fun d => K51 w 2 p d
      rw [show nI 2 = (2 : Int32) from rfl] at k51
      have u : nI p0 + 5 = nI p := by
        rw [show (5 : Int32) = nI 5 from rfl, nI_add]
        congr 1
        omega
      rw [X53_6]
      simp only [bI_some, bV_some, bR_some, bL_some, ob_some, cd_t, cd_f, cd_d, okO_setI, okA_setI, okL_setI, aLen_setI, hR_setI, hI_setI, Bool.true_and, Bool.and_true, Bool.and_self, Option.isNone_some, Option.isSome_some, Option.isNone_none, Option.isSome_none, okO_chI, okA_chI, okL_chI, aLen_chI, hR_chI, ↓reduceIte, not_true_eq_false, not_false_eq_true, eq_self, c10, WMd w, K50 w m, bD_t q, c10, X53_9, m.2.2.2.1, u, X53_15, k51]
      rfl
    · refine ⟨h, f, Or.inr ⟨q, ?_, m, e8⟩⟩
      rw [X53_6]
      simp only [bI_some, bV_some, bR_some, bL_some, ob_some, cd_t, cd_f, cd_d, okO_setI, okA_setI, okL_setI, aLen_setI, hR_setI, hI_setI, Bool.true_and, Bool.and_true, Bool.and_self, Option.isNone_some, Option.isSome_some, Option.isNone_none, Option.isSome_none, okO_chI, okA_chI, okL_chI, aLen_chI, hR_chI, ↓reduceIte, not_true_eq_false, not_false_eq_true, eq_self, c10, WMd w, K50 w m, bD_f q, X53_39]
  | succ c ih =>
    intro i h p v hi hp f m e8 hpL hL
    have w : Wf rb dr jd h := w0.e f.1
    rw [rdn_s]
    by_cases q : dgT t L p = true
    · have qq := dgT_t q
      rw [if_pos q]
      let h1 := setI h 109 8 (nI (10 * v + t p - 48))
      let h2 := setI h1 109 5 (nI (p + 1))
      have w1 : Wf rb dr jd h1 := w
      have w2 : Wf rb dr jd h2 := w
      obtain ⟨h', f', o⟩ := ih (i + 1) h2 (p + 1) (10 * v + t p - 48) (by omega) (by omega) (f.tr ((Fm.one (by omega) _).tr (Fm.one (by omega) _))) (m.fm (fun b i hb => by show hI (setI (setI h 109 8 _) 109 5 _) b i = _; rw [hI_setI, if_neg (by omega), hI_setI, if_neg (by omega)]) (by show hI (setI h1 109 5 _) 109 5 = _; rw [hI_setI, if_pos ⟨rfl, rfl⟩]) (by omega)) (by show hI (setI (setI h 109 8 _) 109 5 _) 109 8 = _; rw [hI_setI, if_neg (by omega), hI_setI, if_pos ⟨rfl, rfl⟩]) (by omega) hL
      have e6 : rW (d + 2) 53 (6, (0, 0), [some (rz_r (some 109)), some (rz_i (nI p0))], [], h) = rW (d + 2) 53 (6, (0, 0), [some (rz_r (some 109)), some (rz_i (nI p0))], [], h2) := by
        have u : ¬ nI p = nI p0 + 5 := by
          rw [show (5 : Int32) = nI 5 from rfl, nI_add, nI_eq (by omega) (by omega)]
          omega
        have u2 : (10 : Int32) * nI v + nI (t p) - 48 = nI (10 * v + t p - 48) := by
          rw [show (10 : Int32) = nI 10 from rfl, nI_mul, nI_add]
          exact nI_sub (b := 48) (by omega)
        have v5 : hI h1 109 5 = nI p := by
          show hI (setI h 109 8 _) 109 5 = _
          rw [hI_setI, if_neg (by omega)]
          exact m.2.2.2.1
        rw [X53_6]
        simp only [bI_some, bV_some, bR_some, bL_some, ob_some, cd_t, cd_f, cd_d, okO_setI, okA_setI, okL_setI, aLen_setI, hR_setI, hI_setI, Bool.true_and, Bool.and_true, Bool.and_self, Option.isNone_some, Option.isSome_some, Option.isNone_none, Option.isSome_none, okO_chI, okA_chI, okL_chI, aLen_chI, hR_chI, ↓reduceIte, not_true_eq_false, not_false_eq_true, eq_self, c10, WMd w, K50 w m, bD_t q, c10]
        rw [X53_9]
        simp only [bI_some, bV_some, bR_some, bL_some, ob_some, cd_t, cd_f, cd_d, okO_setI, okA_setI, okL_setI, aLen_setI, hR_setI, hI_setI, Bool.true_and, Bool.and_true, Bool.and_self, Option.isNone_some, Option.isSome_some, Option.isNone_none, Option.isSome_none, okO_chI, okA_chI, okL_chI, aLen_chI, hR_chI, ↓reduceIte, not_true_eq_false, not_false_eq_true, eq_self, c10, WMd w, m.2.2.2.1, u]
        rw [X53_21]
        simp only [bI_some, bV_some, bR_some, bL_some, ob_some, cd_t, cd_f, cd_d, okO_setI, okA_setI, okL_setI, aLen_setI, hR_setI, hI_setI, Bool.true_and, Bool.and_true, Bool.and_self, Option.isNone_some, Option.isSome_some, Option.isNone_none, Option.isSome_none, okO_chI, okA_chI, okL_chI, aLen_chI, hR_chI, ↓reduceIte, not_true_eq_false, not_false_eq_true, eq_self, c10, WMd w, K49 w m, pkk_in qq.1, e8, u2]
        rw [show setI h 109 8 (nI (10 * v + t p - 48)) = h1 from rfl, X53_32]
        simp only [cd_t, (WMd w1).1, v5, nI_1]
        rw [show setI h1 109 5 (nI (p + 1)) = h2 from rfl, X53_38]
      refine ⟨h', f', ?_⟩
      rw [e6]
      exact o
    · rw [if_neg q]
      refine ⟨h, f, Or.inr ⟨q, ?_, m, e8⟩⟩
      rw [X53_6]
      simp only [bI_some, bV_some, bR_some, bL_some, ob_some, cd_t, cd_f, cd_d, okO_setI, okA_setI, okL_setI, aLen_setI, hR_setI, hI_setI, Bool.true_and, Bool.and_true, Bool.and_self, Option.isNone_some, Option.isSome_some, Option.isNone_none, Option.isSome_none, okO_chI, okA_chI, okL_chI, aLen_chI, hR_chI, ↓reduceIte, not_true_eq_false, not_false_eq_true, eq_self, c10, WMd w, K50 w m, bD_f q, X53_39]
/-- a number whose first digit is there -/
theorem K53 {rb dr : Nat} {jd : Option Nat} {h : rz_H} (w : Wf rb dr jd h) {N : Nat} {t : Nat → Nat} {L p : Nat} (m : MT h N t L p) (hp : p ≤ L) (hL : L < 900) (q : dgT t L p = true) (d : Nat) : ∃ h', Fm h h' ∧ ((∃ e, numT t L 5 p = Sum.inl e ∧ cW (d + 3) 53 [rz_r (some 109)] h = some (rz_i 0, h') ∧ hI h' 109 7 = erI e.1 e.2) ∨ (∃ z, numT t L 5 p = Sum.inr z ∧ cW (d + 3) 53 [rz_r (some 109)] h = some (rz_i 1, h') ∧ MT h' N t L z.1 ∧ hI h' 109 8 = nI z.2)) := by
  unfold numT
  rw [if_pos q]
  let h1 := setI h 109 8 0
  have w1 : Wf rb dr jd h1 := w
  have m1 : MT h1 N t L p := m.fm (fun b i hb => by show hI (setI h 109 8 0) b i = _; rw [hI_setI, if_neg (by omega)]) (by show hI (setI h 109 8 0) 109 5 = _; rw [hI_setI, if_neg (by omega)]; exact m.2.2.2.1) m.2.2.2.2
  obtain ⟨h', f', c⟩ := K53l w (N := N) (t := t) (L := L) (p0 := p) (by omega) d 5 0 h1 p 0 (by omega) (by omega) (Fm.one (by omega) _) m1 (by show hI (setI h 109 8 0) 109 8 = _; rw [hI_setI, if_pos ⟨rfl, rfl⟩]; rfl) hp hL
  have st : cW (d + 3) 53 [rz_r (some 109)] h = rW (d + 2) 53 (6, (0, 0), [some (rz_r (some 109)), some (rz_i (nI p))], [], h1) := by
    rw [X53]
    simp only [bI_some, bV_some, bR_some, bL_some, ob_some, cd_t, cd_f, cd_d, okO_setI, okA_setI, okL_setI, aLen_setI, hR_setI, hI_setI, Bool.true_and, Bool.and_true, Bool.and_self, Option.isNone_some, Option.isSome_some, Option.isNone_none, Option.isSome_none, okO_chI, okA_chI, okL_chI, aLen_chI, hR_chI, ↓reduceIte, not_true_eq_false, not_false_eq_true, eq_self, c10, WMd w, m.2.2.2.1]
    rw [X53_3]
    simp only [bI_some, bV_some, bR_some, bL_some, ob_some, cd_t, cd_f, cd_d, okO_setI, okA_setI, okL_setI, aLen_setI, hR_setI, hI_setI, Bool.true_and, Bool.and_true, Bool.and_self, Option.isNone_some, Option.isSome_some, Option.isNone_none, Option.isSome_none, okO_chI, okA_chI, okL_chI, aLen_chI, hR_chI, ↓reduceIte, not_true_eq_false, not_false_eq_true, eq_self, c10, WMd w]
    rfl
  generalize rdn t L 5 p 0 = z at *
  rcases c with ⟨c1, c2, c3⟩ | ⟨c1, c2, c3, c4⟩
  · rw [if_pos c1]
    exact ⟨h', f', Or.inl ⟨_, rfl, by rw [st]; exact c2, c3⟩⟩
  · rw [if_neg c1]
    exact ⟨h', f', Or.inr ⟨_, rfl, by rw [st]; exact c2, c3, c4⟩⟩
theorem K54 {rb dr : Nat} {jd : Option Nat} {h : rz_H} (w : Wf rb dr jd h) {m : Nat} (e10 : hI h 109 10 = nI m) (hm : m < 260) (k v : Nat) (d : Nat) : cW (d + 1) 54 [rz_r (some 109), rz_i (nI k), rz_i (nI v)] h = some (rz_i 0, setI (setI h 114 m (nI (1048576 * k + v))) 109 10 (nI (m + 1))) := by
  rw [E54]
  simp (disch := omega) only [↓cd_d, ↓irem_eq_mod, ↓ob_setI, ↓ob_chI, ↓ob_some, bI_some, bV_some, bR_some, bL_some, ob_some, cd_t, cd_f, okO_setI, okA_setI, okL_setI, aLen_setI, hR_setI, hI_setI, Bool.true_and, Bool.and_true, Bool.and_self, Option.isNone_some, Option.isSome_some, Option.isNone_none, Option.isSome_none, okO_chI, okA_chI, okL_chI, aLen_chI, hR_chI, ↓reduceIte, not_true_eq_false, not_false_eq_true, eq_self, c10, Nat.zero_add, nI_add, litA, litB, litM, nI_mul, nI_leI, nI_ltI, nI_eq, litLe, litLe2, litLt, litLt2, litEq, litEq2, in_nI, lit_in, nI_clamp, lit_cl, if_pos, if_neg, ↓WMb w, WMd w, e10]
