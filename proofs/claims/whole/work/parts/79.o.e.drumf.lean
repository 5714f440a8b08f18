/-! a drum's text: the model's frames -/
theorem stB_mono {L : Nat} {s s' : Nat} (h : s ≤ s') : ∀ stk, stB L stk s → stB L stk s'
  | [], _ => trivial
  | (f, a, m) :: r, ⟨a1, a2, a3, a4, a5⟩ => ⟨a1, Nat.le_trans a2 h, a3, a4, a5⟩
/-- how a piece of the model's reading ends -/
def Oc (h0 : rz_H) (t : Nat → Nat) (L : Nat) (h' : rz_H) (b : Int32) (p0 : Nat) (Z : RR) : Prop := (b = 0 ∧ ∃ e, Z = Sum.inl e ∧ DMe h0 h' e.1 e.2) ∨ (b = 1 ∧ ∃ p row size stk, Z = expT t L stk p row size ∧ DM h0 L h' p row size stk ∧ p0 < p ∧ p ≤ L ∧ size ≤ 16 ∧ 0 < size ∧ stB L stk (size - 1) ∧ stk.length ≤ 2 ∧ (stk = [] ∨ ¬ (p < L ∧ t p = 41)))
theorem K78c {rb dr : Nat} {jd : Option Nat} {h0 : rz_H} (w0 : Wf rb dr jd h0) {N : Nat} {t : Nat → Nat} (T : Tm h0 N t) {L : Nat} (hL : L ≤ N) (h60 : L ≤ 60) (p0 d : Nat) : ∀ stk h p row size, DM h0 L h p row size stk → p ≤ L → size ≤ 16 → 0 < size → stB L stk (size - 1) → stk.length ≤ 2 → p0 < p → ∃ b h', (∀ j1 j2 j3, rW (d + 2) 78 (110, (0, 0), [some (rz_r (some 109)), j1, j2, j3], [], h) = some (rz_i b, h')) ∧ Oc h0 t L h' b p0 (expT t L stk p row size) := by
  intro stk
  induction stk with
  | nil =>
    intro h p row size s hp hs h0s hB hl hpp
    have w : Wf rb dr jd h := w0.e s.1
    have k49 := K49 w (s.mt T hL (by omega))
    refine ⟨1, h, fun j1 j2 j3 => ?_, Or.inr ⟨rfl, p, row, size, [], rfl, s, hpp, hp, hs, h0s, hB, hl, Or.inl rfl⟩⟩
    have e32 : hI h 109 32 = nI 0 := s.2.2.2.2.1
    rw [X78_110]
    by_cases c : pkI t L p = 41
    · simp (disch := omega) only [↓cd_d, ↓irem_eq_mod, ↓ob_setI, ↓ob_chI, ↓ob_some, bI_some, bV_some, bR_some, bL_some, ob_some, cd_t, cd_f, okO_setI, okA_setI, okL_setI, aLen_setI, hR_setI, hI_setI, Bool.true_and, Bool.and_true, Bool.and_self, Option.isNone_some, Option.isSome_some, Option.isNone_none, Option.isSome_none, okO_chI, okA_chI, okL_chI, aLen_chI, hR_chI, ↓reduceIte, not_true_eq_false, not_false_eq_true, eq_self, c10, Nat.zero_add, nI_add, litA, litB, litM, nI_mul, nI_leI, nI_ltI, nI_eq, litLe, litLe2, litLt, litLt2, litEq, litEq2, in_nI, lit_in, nI_clamp, lit_cl, if_pos, if_neg, WMd w, k49, c, X78_114, e32, X78_149]
    · simp (disch := omega) only [↓cd_d, ↓irem_eq_mod, ↓ob_setI, ↓ob_chI, ↓ob_some, bI_some, bV_some, bR_some, bL_some, ob_some, cd_t, cd_f, okO_setI, okA_setI, okL_setI, aLen_setI, hR_setI, hI_setI, Bool.true_and, Bool.and_true, Bool.and_self, Option.isNone_some, Option.isSome_some, Option.isNone_none, Option.isSome_none, okO_chI, okA_chI, okL_chI, aLen_chI, hR_chI, ↓reduceIte, not_true_eq_false, not_false_eq_true, eq_self, c10, Nat.zero_add, nI_add, litA, litB, litM, nI_mul, nI_leI, nI_ltI, nI_eq, litLe, litLe2, litLt, litLt2, litEq, litEq2, in_nI, lit_in, nI_clamp, lit_cl, if_pos, if_neg, WMd w, k49, c, X78_149]
  | cons st r ih =>
    obtain ⟨f, a, m⟩ := st
    intro h p row size s hp hs h0s hB hl hpp
    have w : Wf rb dr jd h := w0.e s.1
    have k49 := K49 w (s.mt T hL (by omega))
    have hl : r.length + 1 ≤ 2 := hl
    have e32 : hI h 109 32 = nI (r.length + 1) := s.2.2.2.2.1
    have p41 : pkI t L p = 41 ↔ p < L ∧ t p = 41 := pkk_eq (m := 41) (fun q => (T.2 p (by omega)).1) (by omega)
    by_cases c : p < L ∧ t p = 41
    · obtain ⟨b1, b2, b3, b4, b5⟩ := hB
      have e5 := s.2.2.1
      have s1 := s.skip (p + 1)
      let h1 := setI h 109 5 (nI (p + 1))
      let h2 := setI h1 109 32 (nI r.length)
      have w1 : Wf rb dr jd h1 := w
      have w2 : Wf rb dr jd h2 := w
      have e32' : hI h1 109 32 = nI (r.length + 1) := e32
      have s2 : DM h0 L h2 (p + 1) row size r := by
        obtain ⟨q1, q2, q3, q4, q5, q6, q7, q8⟩ := s1
        refine ⟨q1, ?_, ?_, ?_, ?_, fun j hj => ?_, ?_, fun b j n1 n2 => ?_⟩
        · show hI (setI h1 109 32 (nI r.length)) 109 6 = _
          rw [hI_setI, if_neg (by omega)]; exact q2
        · show hI (setI h1 109 32 (nI r.length)) 109 5 = _
          rw [hI_setI, if_neg (by omega)]; exact q3
        · show hI (setI h1 109 32 (nI r.length)) 109 31 = _
          rw [hI_setI, if_neg (by omega)]; exact q4
        · show hI (setI h1 109 32 (nI r.length)) 109 32 = _
          rw [hI_setI, if_pos ⟨rfl, rfl⟩]
        · show hI (setI h1 109 32 (nI r.length)) 127 j = _
          rw [hI_setI, if_neg (by omega)]; exact q6 j hj
        · exact stO_to (h := h1) (fun b j h1 h2 => by
            show hI (setI (setI h 109 5 (nI (p + 1))) 109 32 (nI r.length)) b j = _
            rw [hI_setI, if_neg (by omega)]) r q7.2.2.2
        · show hI (setI h1 109 32 (nI r.length)) b j = _
          rw [hI_setI, if_neg (by omega)]; exact q8 b j n1 n2
      obtain ⟨t1, t2, t3, -⟩ := s.2.2.2.2.2.2.1
      have g1 : hI h2 128 r.length = nI f := t1
      have g2 : hI h2 129 r.length = nI a := t2
      have g3 : hI h2 130 r.length = nI m := t3
      have g4 : hI h2 109 32 = nI r.length := s2.2.2.2.2.1
      have hst : ∀ b h', cW (d + 2) 76 [rz_r (some 109), rz_i (nI a), rz_i (nI m), rz_i (nI f)] h2 = some (rz_i b, h') → ∀ j1 j2 j3, rW (d + 2) 78 (110, (0, 0), [some (rz_r (some 109)), j1, j2, j3], [], h) = if ¬ b = 0 then rW (d + 2) 78 (110, (0, 0), [some (rz_r (some 109)), none, none, none], [], h') else rW (d + 2) 78 (147, (0, 0), [some (rz_r (some 109)), none, none, none], [], h') := fun b h' e j1 j2 j3 => by
        have u : nI (r.length + 1) - 1 = nI r.length := nI_pred _
        rw [X78_110]
        simp (disch := omega) only [↓cd_d, ↓irem_eq_mod, ↓ob_setI, ↓ob_chI, ↓ob_some, bI_some, bV_some, bR_some, bL_some, ob_some, cd_t, cd_f, okO_setI, okA_setI, okL_setI, aLen_setI, hR_setI, hI_setI, Bool.true_and, Bool.and_true, Bool.and_self, Option.isNone_some, Option.isSome_some, Option.isNone_none, Option.isSome_none, okO_chI, okA_chI, okL_chI, aLen_chI, hR_chI, ↓reduceIte, not_true_eq_false, not_false_eq_true, eq_self, c10, Nat.zero_add, nI_add, litA, litB, litM, nI_mul, nI_leI, nI_ltI, nI_eq, litLe, litLe2, litLt, litLt2, litEq, litEq2, in_nI, lit_in, nI_clamp, lit_cl, if_pos, if_neg, WMd w, k49, p41.mpr c, X78_114, e32, X78_117, e5]
        rw [show setI h 109 5 (nI (p + 1)) = h1 from rfl, X78_123]
        simp (disch := omega) only [↓cd_d, ↓irem_eq_mod, ↓ob_setI, ↓ob_chI, ↓ob_some, bI_some, bV_some, bR_some, bL_some, ob_some, cd_t, cd_f, okO_setI, okA_setI, okL_setI, aLen_setI, hR_setI, hI_setI, Bool.true_and, Bool.and_true, Bool.and_self, Option.isNone_some, Option.isSome_some, Option.isNone_none, Option.isSome_none, okO_chI, okA_chI, okL_chI, aLen_chI, hR_chI, ↓reduceIte, not_true_eq_false, not_false_eq_true, eq_self, c10, Nat.zero_add, nI_add, litA, litB, litM, nI_mul, nI_leI, nI_ltI, nI_eq, litLe, litLe2, litLt, litLt2, litEq, litEq2, in_nI, lit_in, nI_clamp, lit_cl, if_pos, if_neg, WMd w1, e32', u]
        rw [show setI h1 109 32 (nI r.length) = h2 from rfl, X78_129]
        simp (disch := omega) only [↓cd_d, ↓irem_eq_mod, ↓ob_setI, ↓ob_chI, ↓ob_some, bI_some, bV_some, bR_some, bL_some, ob_some, cd_t, cd_f, okO_setI, okA_setI, okL_setI, aLen_setI, hR_setI, hI_setI, Bool.true_and, Bool.and_true, Bool.and_self, Option.isNone_some, Option.isSome_some, Option.isNone_none, Option.isSome_none, okO_chI, okA_chI, okL_chI, aLen_chI, hR_chI, ↓reduceIte, not_true_eq_false, not_false_eq_true, eq_self, c10, Nat.zero_add, nI_add, litA, litB, litM, nI_mul, nI_leI, nI_ltI, nI_eq, litLe, litLe2, litLt, litLt2, litEq, litEq2, in_nI, lit_in, nI_clamp, lit_cl, if_pos, if_neg, ↓WMb w2, WMd w2, g4, g2, g3, g1, e]
      rw [exp_cls c.1 c.2 hs]
      obtain ⟨K1, K2⟩ := K76 w0 s2 hs (a := a) (m := m) (f := f) (by omega) b3 b4 d
      unfold repT
      by_cases c2 : 16 < a + (size - a) * m
      · rw [if_pos c2]
        have st := hst 0 _ (K1 c2)
        refine ⟨0, setI h2 109 7 (erI 6 f), fun j1 j2 j3 => ?_, Or.inl ⟨rfl, (6, f), rfl, s2.err 6 f⟩⟩
        rw [st, if_neg (fun q => q rfl), X78_147]
      · rw [if_neg c2]
        obtain ⟨h3, e3, s3⟩ := K2 c2
        have st := hst 1 h3 e3
        have hb2 : size - a ≤ (size - a) * m := Nat.le_mul_of_pos_right _ b3
        obtain ⟨b, h', e4, O4⟩ := ih h3 (p + 1) _ (a + (size - a) * m) s3 c.1 (by omega) (by omega) (stB_mono (by omega) r b5) (by omega) (by omega)
        refine ⟨b, h', fun j1 j2 j3 => ?_, O4⟩
        rw [st, if_pos c10]
        exact e4 _ _ _
    · refine ⟨1, h, fun j1 j2 j3 => ?_, Or.inr ⟨rfl, p, row, size, (f, a, m) :: r, rfl, s, hpp, hp, hs, h0s, hB, hl, Or.inr c⟩⟩
      have n : ¬ pkI t L p = 41 := fun q => c (p41.mp q)
      rw [X78_110]
      simp (disch := omega) only [↓cd_d, ↓irem_eq_mod, ↓ob_setI, ↓ob_chI, ↓ob_some, bI_some, bV_some, bR_some, bL_some, ob_some, cd_t, cd_f, okO_setI, okA_setI, okL_setI, aLen_setI, hR_setI, hI_setI, Bool.true_and, Bool.and_true, Bool.and_self, Option.isNone_some, Option.isSome_some, Option.isNone_none, Option.isSome_none, okO_chI, okA_chI, okL_chI, aLen_chI, hR_chI, ↓reduceIte, not_true_eq_false, not_false_eq_true, eq_self, c10, Nat.zero_add, nI_add, litA, litB, litM, nI_mul, nI_leI, nI_ltI, nI_eq, litLe, litLe2, litLt, litLt2, litEq, litEq2, in_nI, lit_in, nI_clamp, lit_cl, if_pos, if_neg, WMd w, k49, n, X78_149]
theorem K78f {rb dr : Nat} {jd : Option Nat} {h0 : rz_H} (w0 : Wf rb dr jd h0) {N : Nat} {t : Nat → Nat} (T : Tm h0 N t) {L : Nat} (hL : L ≤ N) (h60 : L ≤ 60) (p0 d : Nat) (stk : List (Nat × Nat × Nat)) (h : rz_H) (p first times : Nat) (row : Nat → Nat) (size : Nat) (s : DM h0 L h p row size stk) (e33 : hI h 109 33 = nI first) (e34 : hI h 109 34 = nI times) (hp : p ≤ L) (hf : first ≤ L) (h4 : 0 < times) (h5 : times ≤ 9) (hs : size ≤ 16) (hB : stB L stk size) (hl : stk.length ≤ 2) (hpp : p0 ≤ p) : ∃ b h', rW (d + 2) 78 (52, (0, 0), [some (rz_r (some 109)), none, none, none], [], h) = some (rz_i b, h') ∧ Oc h0 t L h' b p0 (rbd (frT t L p first times row size) (expT t L stk)) := by
  have w : Wf rb dr jd h := w0.e s.1
  have k77 := K77 w (s.mt T hL (by omega))
  have e5 := s.2.2.1
  have e31 := s.2.2.2.1
  unfold frT
  rcases hc : pcT t L p with _ | c
  · rw [hc] at k77
    have k51 := fun d => K51 w 1 p d
    rw [show nI 1 = (1 : Int32) from rfl] at k51
    refine ⟨0, _, ?_, Or.inl ⟨rfl, (1, p), rfl, s.err 1 p⟩⟩
    rw [X78_52]
    simp only [bI_some, bV_some, bR_some, bL_some, ob_some, cd_t, cd_f, cd_d, okO_setI, okA_setI, okL_setI, aLen_setI, hR_setI, hI_setI, Bool.true_and, Bool.and_true, Bool.and_self, Option.isNone_some, Option.isSome_some, Option.isNone_none, Option.isSome_none, okO_chI, okA_chI, okL_chI, aLen_chI, hR_chI, ↓reduceIte, not_true_eq_false, not_false_eq_true, eq_self, c10, WMd w, e33, X78_55, e34, X78_58, k77, pcI, X78_61, X78_64, e5, k51]
    rfl
  · rw [hc] at k77
    obtain ⟨c16, hpl⟩ := pcT_le hc
    have n1 : ¬ nI c = -1 := ne_m1 (by omega)
    show ∃ b h', _ ∧ Oc h0 t L h' b p0 (rbd (repT (p + 1) (udn row size c) size 1 times first) (expT t L stk))
    unfold repT
    rw [Nat.one_mul]
    by_cases c2 : 16 < size + times
    · rw [if_pos c2]
      have k51 := fun d => K51 w 6 first d
      rw [show nI 6 = (6 : Int32) from rfl] at k51
      refine ⟨0, _, ?_, Or.inl ⟨rfl, (6, first), rfl, s.err 6 first⟩⟩
      rw [X78_52]
      simp only [bI_some, bV_some, bR_some, bL_some, ob_some, cd_t, cd_f, cd_d, okO_setI, okA_setI, okL_setI, aLen_setI, hR_setI, hI_setI, Bool.true_and, Bool.and_true, Bool.and_self, Option.isNone_some, Option.isSome_some, Option.isNone_none, Option.isSome_none, okO_chI, okA_chI, okL_chI, aLen_chI, hR_chI, ↓reduceIte, not_true_eq_false, not_false_eq_true, eq_self, c10, WMd w, e33, X78_55, e34, X78_58, k77, pcI, X78_61, n1, X78_70]
      simp (disch := omega) only [↓cd_d, ↓irem_eq_mod, ↓ob_setI, ↓ob_chI, ↓ob_some, bI_some, bV_some, bR_some, bL_some, ob_some, cd_t, cd_f, okO_setI, okA_setI, okL_setI, aLen_setI, hR_setI, hI_setI, Bool.true_and, Bool.and_true, Bool.and_self, Option.isNone_some, Option.isSome_some, Option.isNone_none, Option.isSome_none, okO_chI, okA_chI, okL_chI, aLen_chI, hR_chI, ↓reduceIte, not_true_eq_false, not_false_eq_true, eq_self, c10, Nat.zero_add, nI_add, litA, litB, litM, nI_mul, nI_leI, nI_ltI, nI_eq, litLe, litLe2, litLt, litLt2, litEq, litEq2, in_nI, lit_in, nI_clamp, lit_cl, if_pos, if_neg, WMd w, e31, X78_76, k51]
      rfl
    · rw [if_neg c2]
      let h1 := setI h 109 5 (nI (p + 1))
      let h2 := setI h1 127 size (nI c)
      let h3 := setI h2 109 31 (nI (size + 1))
      have w1 : Wf rb dr jd h1 := w
      have w2 : Wf rb dr jd h2 := w
      have w3 : Wf rb dr jd h3 := w
      have s1 := s.skip (p + 1)
      have s3 : DM h0 L h3 (p + 1) (udn row size c) (size + 1) stk := by
        obtain ⟨q1, q2, q3, q4, q5, q6, q7, q8⟩ := s1
        have out : ∀ b i, ¬ (b = 127 ∧ i = size) → ¬ (b = 109 ∧ i = 31) → hI h3 b i = hI h1 b i := fun b i n1 n2 => by
          show hI (setI (setI h1 127 size (nI c)) 109 31 (nI (size + 1))) b i = _
          rw [hI_setI, if_neg n2, hI_setI, if_neg n1]
        refine ⟨q1, (out _ _ (by omega) (by omega)).trans q2, (out _ _ (by omega) (by omega)).trans q3, ?_, (out _ _ (by omega) (by omega)).trans q5, fun j hj => ?_, stO_to (h := h1) (fun b j h1 h2 => out b j (by omega) (by omega)) stk q7, fun b j n1 n2 => (out b j (by omega) (by omega)).trans (q8 b j n1 n2)⟩
        · show hI (setI h2 109 31 (nI (size + 1))) 109 31 = _
          rw [hI_setI, if_pos ⟨rfl, rfl⟩]
        · unfold udn
          by_cases ej : j = size
          · subst ej
            rw [if_pos rfl]
            show hI (setI (setI h1 127 j (nI c)) 109 31 (nI (j + 1))) 127 j = _
            rw [hI_setI, if_neg (by omega), hI_setI, if_pos ⟨rfl, rfl⟩]
          · rw [if_neg ej]
            exact (out _ _ (by omega) (by omega)).trans (q6 j (by omega))
      obtain ⟨-, K2⟩ := K76 w0 s3 (by omega) (a := size) (m := times) (f := first) (by omega) h4 h5 d
      rw [show size + 1 - size = 1 by omega, Nat.one_mul] at K2
      obtain ⟨h4', e4, s4⟩ := K2 c2
      obtain ⟨b, h', e, O⟩ := K78c w0 T hL h60 p0 d stk h4' (p + 1) _ (size + times) s4 hpl (by omega) (by omega) (stB_mono (by omega) stk hB) hl (by omega)
      refine ⟨b, h', ?_, O⟩
      have v2 : hI h1 109 31 = nI size := e31
      have v3 : hI h2 109 31 = nI size := e31
      have v4 : hI h3 109 31 = nI (size + 1) := s3.2.2.2.1
      have u : nI (size + 1) - 1 = nI size := nI_pred size
      rw [X78_52]
      simp only [bI_some, bV_some, bR_some, bL_some, ob_some, cd_t, cd_f, cd_d, okO_setI, okA_setI, okL_setI, aLen_setI, hR_setI, hI_setI, Bool.true_and, Bool.and_true, Bool.and_self, Option.isNone_some, Option.isSome_some, Option.isNone_none, Option.isSome_none, okO_chI, okA_chI, okL_chI, aLen_chI, hR_chI, ↓reduceIte, not_true_eq_false, not_false_eq_true, eq_self, c10, WMd w, e33, X78_55, e34, X78_58, k77, pcI, X78_61, n1, X78_70]
      simp (disch := omega) only [↓cd_d, ↓irem_eq_mod, ↓ob_setI, ↓ob_chI, ↓ob_some, bI_some, bV_some, bR_some, bL_some, ob_some, cd_t, cd_f, okO_setI, okA_setI, okL_setI, aLen_setI, hR_setI, hI_setI, Bool.true_and, Bool.and_true, Bool.and_self, Option.isNone_some, Option.isSome_some, Option.isNone_none, Option.isSome_none, okO_chI, okA_chI, okL_chI, aLen_chI, hR_chI, ↓reduceIte, not_true_eq_false, not_false_eq_true, eq_self, c10, Nat.zero_add, nI_add, litA, litB, litM, nI_mul, nI_leI, nI_ltI, nI_eq, litLe, litLe2, litLt, litLt2, litEq, litEq2, in_nI, lit_in, nI_clamp, lit_cl, if_pos, if_neg, WMd w, e31, X78_81, e5]
      rw [show setI h 109 5 (nI (p + 1)) = h1 from rfl, X78_87]
      simp (disch := omega) only [↓cd_d, ↓irem_eq_mod, ↓ob_setI, ↓ob_chI, ↓ob_some, bI_some, bV_some, bR_some, bL_some, ob_some, cd_t, cd_f, okO_setI, okA_setI, okL_setI, aLen_setI, hR_setI, hI_setI, Bool.true_and, Bool.and_true, Bool.and_self, Option.isNone_some, Option.isSome_some, Option.isNone_none, Option.isSome_none, okO_chI, okA_chI, okL_chI, aLen_chI, hR_chI, ↓reduceIte, not_true_eq_false, not_false_eq_true, eq_self, c10, Nat.zero_add, nI_add, litA, litB, litM, nI_mul, nI_leI, nI_ltI, nI_eq, litLe, litLe2, litLt, litLt2, litEq, litEq2, in_nI, lit_in, nI_clamp, lit_cl, if_pos, if_neg, ↓WMb w1, WMd w1, v2]
      rw [show setI h1 127 size (nI c) = h2 from rfl, X78_93]
      simp (disch := omega) only [↓cd_d, ↓irem_eq_mod, ↓ob_setI, ↓ob_chI, ↓ob_some, bI_some, bV_some, bR_some, bL_some, ob_some, cd_t, cd_f, okO_setI, okA_setI, okL_setI, aLen_setI, hR_setI, hI_setI, Bool.true_and, Bool.and_true, Bool.and_self, Option.isNone_some, Option.isSome_some, Option.isNone_none, Option.isSome_none, okO_chI, okA_chI, okL_chI, aLen_chI, hR_chI, ↓reduceIte, not_true_eq_false, not_false_eq_true, eq_self, c10, Nat.zero_add, nI_add, litA, litB, litM, nI_mul, nI_leI, nI_ltI, nI_eq, litLe, litLe2, litLt, litLt2, litEq, litEq2, in_nI, lit_in, nI_clamp, lit_cl, if_pos, if_neg, WMd w2, v3]
      rw [show setI h2 109 31 (nI (size + 1)) = h3 from rfl, X78_99]
      simp only [bI_some, bV_some, bR_some, bL_some, ob_some, cd_t, cd_f, cd_d, okO_setI, okA_setI, okL_setI, aLen_setI, hR_setI, hI_setI, Bool.true_and, Bool.and_true, Bool.and_self, Option.isNone_some, Option.isSome_some, Option.isNone_none, Option.isSome_none, okO_chI, okA_chI, okL_chI, aLen_chI, hR_chI, ↓reduceIte, not_true_eq_false, not_false_eq_true, eq_self, c10, WMd w3, v4, u, e4]
      exact e _ _ _
theorem K78b {rb dr : Nat} {jd : Option Nat} {h0 : rz_H} (w0 : Wf rb dr jd h0) {N : Nat} {t : Nat → Nat} (T : Tm h0 N t) {L : Nat} (hL : L ≤ N) (h60 : L ≤ 60) (p0 d : Nat) : ∀ n (stk : List (Nat × Nat × Nat)) h p row size, n + stk.length = 2 → DM h0 L h (tmT t L p).2 row size stk → hI h 109 33 = nI p → hI h 109 34 = nI (tmT t L p).1 → p ≤ L → size ≤ 16 → stB L stk size → p0 ≤ p → ∃ b h', (∀ j1 j2 j3, rW (d + 2) 78 (2, (0, 0), [some (rz_r (some 109)), j1, j2, j3], [], h) = some (rz_i b, h')) ∧ Oc h0 t L h' b p0 (ahd t L stk p row size) := by
  intro n
  induction n with
  | zero =>
    intro stk h p row size hn s e33 e34 hp hs hB hpp
    obtain ⟨a1, a2, a3, a4⟩ := tmT_ok (t := t) hp
    have w : Wf rb dr jd h := w0.e s.1
    have k49 := K49 w (s.mt T hL (by omega))
    have e5 := s.2.2.1
    have e32 : hI h 109 32 = 2 := by rw [s.2.2.2.2.1, show stk.length = 2 by omega]; rfl
    have p40 : pkI t L (tmT t L p).2 = 40 ↔ (tmT t L p).2 < L ∧ t (tmT t L p).2 = 40 := pkk_eq (m := 40) (fun q => (T.2 _ (by omega)).1) (by omega)
    by_cases c : (tmT t L p).2 < L ∧ t (tmT t L p).2 = 40
    · have hZ : ahd t L stk p row size = Sum.inl (5, (tmT t L p).2) := by
        unfold ahd
        rw [show 2 - stk.length = 0 by omega, itm, if_pos c]
        rfl
      rw [hZ]
      have k51 := fun d => K51 w 5 (tmT t L p).2 d
      rw [show nI 5 = (5 : Int32) from rfl] at k51
      refine ⟨0, _, fun j1 j2 j3 => ?_, Or.inl ⟨rfl, (5, (tmT t L p).2), rfl, s.err 5 (tmT t L p).2⟩⟩
      rw [X78_2]
      simp only [bI_some, bV_some, bR_some, bL_some, ob_some, cd_t, cd_f, cd_d, okO_setI, okA_setI, okL_setI, aLen_setI, hR_setI, hI_setI, Bool.true_and, Bool.and_true, Bool.and_self, Option.isNone_some, Option.isSome_some, Option.isNone_none, Option.isSome_none, okO_chI, okA_chI, okL_chI, aLen_chI, hR_chI, ↓reduceIte, not_true_eq_false, not_false_eq_true, eq_self, c10, WMd w, k49, p40.mpr c, X78_6, e32, X78_10, e5, k51]
      rfl
    · have hZ : ahd t L stk p row size = rbd (frT t L (tmT t L p).2 p (tmT t L p).1 row size) (expT t L stk) := by
        unfold ahd
        rw [show 2 - stk.length = 0 by omega, itm, if_neg c]
      rw [hZ]
      have nn : ¬ pkI t L (tmT t L p).2 = 40 := fun q => c (p40.mp q)
      obtain ⟨b, h', e, O⟩ := K78f w0 T hL h60 p0 d stk h (tmT t L p).2 p (tmT t L p).1 row size s e33 e34 a4 hp a1 a2 hs hB (by omega) (by omega)
      refine ⟨b, h', fun j1 j2 j3 => ?_, O⟩
      rw [X78_2]
      simp only [bI_some, bV_some, bR_some, bL_some, ob_some, cd_t, cd_f, cd_d, okO_setI, okA_setI, okL_setI, aLen_setI, hR_setI, hI_setI, Bool.true_and, Bool.and_true, Bool.and_self, Option.isNone_some, Option.isSome_some, Option.isNone_none, Option.isSome_none, okO_chI, okA_chI, okL_chI, aLen_chI, hR_chI, ↓reduceIte, not_true_eq_false, not_false_eq_true, eq_self, c10, WMd w, k49, nn]
      exact e
  | succ n ih =>
    intro stk h p row size hn s e33 e34 hp hs hB hpp
    obtain ⟨a1, a2, a3, a4⟩ := tmT_ok (t := t) hp
    have w : Wf rb dr jd h := w0.e s.1
    have k49 := K49 w (s.mt T hL (by omega))
    have e5 := s.2.2.1
    have e31 := s.2.2.2.1
    have e32 := s.2.2.2.2.1
    have p40 : pkI t L (tmT t L p).2 = 40 ↔ (tmT t L p).2 < L ∧ t (tmT t L p).2 = 40 := pkk_eq (m := 40) (fun q => (T.2 _ (by omega)).1) (by omega)
    by_cases c : (tmT t L p).2 < L ∧ t (tmT t L p).2 = 40
    · rw [ahd_open h60 (by omega) hs c]
      let h1 := setI h 128 stk.length (nI p)
      let h2 := setI h1 129 stk.length (nI size)
      let h3 := setI h2 130 stk.length (nI (tmT t L p).1)
      let h4 := setI h3 109 32 (nI (stk.length + 1))
      let h5 := setI h4 109 5 (nI ((tmT t L p).2 + 1))
      have w1 : Wf rb dr jd h1 := w
      have w2 : Wf rb dr jd h2 := w
      have w3 : Wf rb dr jd h3 := w
      have w4 : Wf rb dr jd h4 := w
      have w5 : Wf rb dr jd h5 := w
      have s5 : DM h0 L h5 ((tmT t L p).2 + 1) row size ((p, size, (tmT t L p).1) :: stk) := by
        obtain ⟨q1, q2, q3, q4, q5, q6, q7, q8⟩ := s
        have out : ∀ b i, ¬ (128 ≤ b ∧ b ≤ 130) → ¬ (b = 109 ∧ (i = 5 ∨ i = 32)) → hI h5 b i = hI h b i := fun b i n1 n2 => by
          show hI (setI (setI (setI (setI (setI h 128 stk.length (nI p)) 129 stk.length (nI size)) 130 stk.length (nI (tmT t L p).1)) 109 32 (nI (stk.length + 1))) 109 5 (nI ((tmT t L p).2 + 1))) b i = _
          rw [hI_setI, if_neg (by omega), hI_setI, if_neg (by omega), hI_setI, if_neg (by omega), hI_setI, if_neg (by omega), hI_setI, if_neg (by omega)]
        refine ⟨q1, (out _ _ (by omega) (by omega)).trans q2, ?_, (out _ _ (by omega) (by omega)).trans q4, ?_, fun j hj => (out _ _ (by omega) (by omega)).trans (q6 j hj), ⟨?_, ?_, ?_, ?_⟩, fun b j n1 n2 => (out b j (by omega) (by omega)).trans (q8 b j n1 n2)⟩
        · show hI (setI h4 109 5 (nI ((tmT t L p).2 + 1))) 109 5 = _
          rw [hI_setI, if_pos ⟨rfl, rfl⟩]
        · show hI (setI (setI h3 109 32 (nI (stk.length + 1))) 109 5 (nI ((tmT t L p).2 + 1))) 109 32 = _
          rw [hI_setI, if_neg (by omega), hI_setI, if_pos ⟨rfl, rfl⟩]; rfl
        · show hI (setI (setI (setI (setI (setI h 128 stk.length (nI p)) 129 stk.length (nI size)) 130 stk.length (nI (tmT t L p).1)) 109 32 (nI (stk.length + 1))) 109 5 (nI ((tmT t L p).2 + 1))) 128 stk.length = _
          rw [hI_setI, if_neg (by omega), hI_setI, if_neg (by omega), hI_setI, if_neg (by omega), hI_setI, if_neg (by omega), hI_setI, if_pos ⟨rfl, rfl⟩]
        · show hI (setI (setI (setI (setI h1 129 stk.length (nI size)) 130 stk.length (nI (tmT t L p).1)) 109 32 (nI (stk.length + 1))) 109 5 (nI ((tmT t L p).2 + 1))) 129 stk.length = _
          rw [hI_setI, if_neg (by omega), hI_setI, if_neg (by omega), hI_setI, if_neg (by omega), hI_setI, if_pos ⟨rfl, rfl⟩]
        · show hI (setI (setI (setI h2 130 stk.length (nI (tmT t L p).1)) 109 32 (nI (stk.length + 1))) 109 5 (nI ((tmT t L p).2 + 1))) 130 stk.length = _
          rw [hI_setI, if_neg (by omega), hI_setI, if_neg (by omega), hI_setI, if_pos ⟨rfl, rfl⟩]
        · exact stO_up (h := h) (n := stk.length) (fun b i hi h1 h2 => by
            show hI (setI (setI (setI (setI (setI h 128 stk.length (nI p)) 129 stk.length (nI size)) 130 stk.length (nI (tmT t L p).1)) 109 32 (nI (stk.length + 1))) 109 5 (nI ((tmT t L p).2 + 1))) b i = _
            rw [hI_setI, if_neg (by omega), hI_setI, if_neg (by omega), hI_setI, if_neg (by omega), hI_setI, if_neg (by omega), hI_setI, if_neg (by omega)]) stk (Nat.le_refl _) q7
      obtain ⟨h6, e6, s6, f1, f2⟩ := K75 w0 T hL s5 (by omega) d
      have w6 : Wf rb dr jd h6 := w0.e s6.1
      obtain ⟨b, h', e, O⟩ := ih ((p, size, (tmT t L p).1) :: stk) h6 ((tmT t L p).2 + 1) row size (by show n + (stk.length + 1) = 2; omega) s6 f1 f2 c.1 hs ⟨hp, Nat.le_refl _, a1, a2, hB⟩ (by omega)
      refine ⟨b, h', fun j1 j2 j3 => ?_, O⟩
      have n2 : ¬ nI stk.length = 2 := fun q => by
        have := (nI_eq (b := 2) (by omega) (by omega)).mp q
        omega
      have v1 : hI h 109 33 = nI p := e33
      have v2 : hI h1 109 31 = nI size := e31
      have v2' : hI h1 109 32 = nI stk.length := e32
      have v3 : hI h2 109 34 = nI (tmT t L p).1 := e34
      have v3' : hI h2 109 32 = nI stk.length := e32
      have v4 : hI h3 109 32 = nI stk.length := e32
      have v5 : hI h4 109 5 = nI (tmT t L p).2 := e5
      rw [X78_2]
      simp only [bI_some, bV_some, bR_some, bL_some, ob_some, cd_t, cd_f, cd_d, okO_setI, okA_setI, okL_setI, aLen_setI, hR_setI, hI_setI, Bool.true_and, Bool.and_true, Bool.and_self, Option.isNone_some, Option.isSome_some, Option.isNone_none, Option.isSome_none, okO_chI, okA_chI, okL_chI, aLen_chI, hR_chI, ↓reduceIte, not_true_eq_false, not_false_eq_true, eq_self, c10, WMd w, k49, p40.mpr c, X78_6, e32, n2, X78_16]
      simp (disch := omega) only [↓cd_d, ↓irem_eq_mod, ↓ob_setI, ↓ob_chI, ↓ob_some, bI_some, bV_some, bR_some, bL_some, ob_some, cd_t, cd_f, okO_setI, okA_setI, okL_setI, aLen_setI, hR_setI, hI_setI, Bool.true_and, Bool.and_true, Bool.and_self, Option.isNone_some, Option.isSome_some, Option.isNone_none, Option.isSome_none, okO_chI, okA_chI, okL_chI, aLen_chI, hR_chI, ↓reduceIte, not_true_eq_false, not_false_eq_true, eq_self, c10, Nat.zero_add, nI_add, litA, litB, litM, nI_mul, nI_leI, nI_ltI, nI_eq, litLe, litLe2, litLt, litLt2, litEq, litEq2, in_nI, lit_in, nI_clamp, lit_cl, if_pos, if_neg, ↓WMb w, WMd w, e32, e33]
      rw [show setI h 128 stk.length (nI p) = h1 from rfl, X78_23]
      simp (disch := omega) only [↓cd_d, ↓irem_eq_mod, ↓ob_setI, ↓ob_chI, ↓ob_some, bI_some, bV_some, bR_some, bL_some, ob_some, cd_t, cd_f, okO_setI, okA_setI, okL_setI, aLen_setI, hR_setI, hI_setI, Bool.true_and, Bool.and_true, Bool.and_self, Option.isNone_some, Option.isSome_some, Option.isNone_none, Option.isSome_none, okO_chI, okA_chI, okL_chI, aLen_chI, hR_chI, ↓reduceIte, not_true_eq_false, not_false_eq_true, eq_self, c10, Nat.zero_add, nI_add, litA, litB, litM, nI_mul, nI_leI, nI_ltI, nI_eq, litLe, litLe2, litLt, litLt2, litEq, litEq2, in_nI, lit_in, nI_clamp, lit_cl, if_pos, if_neg, ↓WMb w1, WMd w1, v2, v2']
      rw [show setI h1 129 stk.length (nI size) = h2 from rfl, X78_30]
      simp (disch := omega) only [↓cd_d, ↓irem_eq_mod, ↓ob_setI, ↓ob_chI, ↓ob_some, bI_some, bV_some, bR_some, bL_some, ob_some, cd_t, cd_f, okO_setI, okA_setI, okL_setI, aLen_setI, hR_setI, hI_setI, Bool.true_and, Bool.and_true, Bool.and_self, Option.isNone_some, Option.isSome_some, Option.isNone_none, Option.isSome_none, okO_chI, okA_chI, okL_chI, aLen_chI, hR_chI, ↓reduceIte, not_true_eq_false, not_false_eq_true, eq_self, c10, Nat.zero_add, nI_add, litA, litB, litM, nI_mul, nI_leI, nI_ltI, nI_eq, litLe, litLe2, litLt, litLt2, litEq, litEq2, in_nI, lit_in, nI_clamp, lit_cl, if_pos, if_neg, ↓WMb w2, WMd w2, v3, v3']
      rw [show setI h2 130 stk.length (nI (tmT t L p).1) = h3 from rfl, X78_37]
      simp (disch := omega) only [↓cd_d, ↓irem_eq_mod, ↓ob_setI, ↓ob_chI, ↓ob_some, bI_some, bV_some, bR_some, bL_some, ob_some, cd_t, cd_f, okO_setI, okA_setI, okL_setI, aLen_setI, hR_setI, hI_setI, Bool.true_and, Bool.and_true, Bool.and_self, Option.isNone_some, Option.isSome_some, Option.isNone_none, Option.isSome_none, okO_chI, okA_chI, okL_chI, aLen_chI, hR_chI, ↓reduceIte, not_true_eq_false, not_false_eq_true, eq_self, c10, Nat.zero_add, nI_add, litA, litB, litM, nI_mul, nI_leI, nI_ltI, nI_eq, litLe, litLe2, litLt, litLt2, litEq, litEq2, in_nI, lit_in, nI_clamp, lit_cl, if_pos, if_neg, WMd w3, v4]
      rw [show setI h3 109 32 (nI (stk.length + 1)) = h4 from rfl, X78_43]
      simp (disch := omega) only [↓cd_d, ↓irem_eq_mod, ↓ob_setI, ↓ob_chI, ↓ob_some, bI_some, bV_some, bR_some, bL_some, ob_some, cd_t, cd_f, okO_setI, okA_setI, okL_setI, aLen_setI, hR_setI, hI_setI, Bool.true_and, Bool.and_true, Bool.and_self, Option.isNone_some, Option.isSome_some, Option.isNone_none, Option.isSome_none, okO_chI, okA_chI, okL_chI, aLen_chI, hR_chI, ↓reduceIte, not_true_eq_false, not_false_eq_true, eq_self, c10, Nat.zero_add, nI_add, litA, litB, litM, nI_mul, nI_leI, nI_ltI, nI_eq, litLe, litLe2, litLt, litLt2, litEq, litEq2, in_nI, lit_in, nI_clamp, lit_cl, if_pos, if_neg, WMd w4, v5]
      rw [show setI h4 109 5 (nI ((tmT t L p).2 + 1)) = h5 from rfl, X78_49]
      simp only [bI_some, bV_some, bR_some, bL_some, ob_some, cd_t, cd_f, cd_d, okO_setI, okA_setI, okL_setI, aLen_setI, hR_setI, hI_setI, Bool.true_and, Bool.and_true, Bool.and_self, Option.isNone_some, Option.isSome_some, Option.isNone_none, Option.isSome_none, okO_chI, okA_chI, okL_chI, aLen_chI, hR_chI, ↓reduceIte, not_true_eq_false, not_false_eq_true, eq_self, c10, WMd w5, e6, X78_51]
      exact e _ _ _
    · have hZ : ahd t L stk p row size = rbd (frT t L (tmT t L p).2 p (tmT t L p).1 row size) (expT t L stk) := by
        unfold ahd
        rw [show 2 - stk.length = (1 - stk.length) + 1 by omega, itm, if_neg c]
      rw [hZ]
      have nn : ¬ pkI t L (tmT t L p).2 = 40 := fun q => c (p40.mp q)
      obtain ⟨b, h', e, O⟩ := K78f w0 T hL h60 p0 d stk h (tmT t L p).2 p (tmT t L p).1 row size s e33 e34 a4 hp a1 a2 hs hB (by omega) (by omega)
      refine ⟨b, h', fun j1 j2 j3 => ?_, O⟩
      rw [X78_2]
      simp only [bI_some, bV_some, bR_some, bL_some, ob_some, cd_t, cd_f, cd_d, okO_setI, okA_setI, okL_setI, aLen_setI, hR_setI, hI_setI, Bool.true_and, Bool.and_true, Bool.and_self, Option.isNone_some, Option.isSome_some, Option.isNone_none, Option.isSome_none, okO_chI, okA_chI, okL_chI, aLen_chI, hR_chI, ↓reduceIte, not_true_eq_false, not_false_eq_true, eq_self, c10, WMd w, k49, nn]
      exact e
