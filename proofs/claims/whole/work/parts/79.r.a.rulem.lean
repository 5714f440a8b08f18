/-! the law's text: the model's rule -/
def FN (lo ms nr : Nat) (h0 h : rz_H) : Prop := h.2 = h0.2 ∧ ∀ b i, ¬ (b = 109 ∧ (i = 5 ∨ (7 ≤ i ∧ i ≤ 12))) → ¬ (b = 114 ∧ ms ≤ i) → b ≠ 115 → ¬ (lo ≤ b ∧ b ≤ 119 ∧ i = nr) → hI h b i = hI h0 b i
theorem FM.fn {lo ms nr : Nat} {h0 h : rz_H} (f : FM ms h0 h) : FN lo ms nr h0 h := ⟨f.1, fun b i n1 n2 n3 n4 => f.2 b i (by omega) n2 n3⟩
theorem FN.tr {lo ms nr : Nat} {h0 h1 h2 : rz_H} (f : FN lo ms nr h0 h1) {lo' ms' : Nat} (g : FN lo' ms' nr h1 h2) (hl : lo ≤ lo') (hm : ms ≤ ms') : FN lo ms nr h0 h2 := ⟨g.1.trans f.1, fun b i n1 n2 n3 n4 => (g.2 b i n1 (by omega) n3 (by omega)).trans (f.2 b i n1 n2 n3 n4)⟩
theorem FN.one {lo ms nr b0 : Nat} (hb0 : lo ≤ b0 ∧ b0 ≤ 119) (h : rz_H) (x : Int32) : FN lo ms nr h (setI h b0 nr x) := ⟨rfl, fun b i n1 n2 n3 n4 => by rw [hI_setI, if_neg (by omega)]⟩
theorem FN.on9 {lo ms nr i0 : Nat} (hi : i0 = 5 ∨ (7 ≤ i0 ∧ i0 ≤ 12)) (h : rz_H) (x : Int32) : FN lo ms nr h (setI h 109 i0 x) := ⟨rfl, fun b i n1 n2 n3 n4 => by rw [hI_setI, if_neg (by omega)]⟩
/-- from the amount's end on -/
theorem K68t {rb dr : Nat} {jd : Option Nat} {h : rz_H} (w : Wf rb dr jd h) {N : Nat} {t : Nat → Nat} {L ms p nr : Nat} (hb : ∀ i, i < L → t i < 256) (hL : L ≤ 240) (m : MT h N t L p) (e10 : hI h 109 10 = nI ms) (e12 : hI h 109 12 = nI nr) (hnr : nr < 16) (hms : ms ≤ p) (hp : p ≤ L) (d : Nat) (j1 : Option rz_V) : ∃ h', (∃ e, tlR t L p = Sum.inl e ∧ rW (d + 7) 68 (67, (0, 0), [some (rz_r (some 109)), j1], [], h) = some (rz_i 0, h') ∧ hI h' 109 7 = erI e.1 e.2 ∧ FN 118 ms nr h h') ∨ (∃ q, tlR t L p = Sum.inr q ∧ rW (d + 7) 68 (67, (0, 0), [some (rz_r (some 109)), j1], [], h) = some (rz_i 1, h') ∧ FN 118 ms nr h h' ∧ MT h' N t L q.1 ∧ hI h' 109 10 = nI (ms + q.2.2) ∧ hI h' 109 12 = nI (nr + 1) ∧ hI h' 118 nr = nI ms ∧ hI h' 119 nr = nI (ms + q.2.2) ∧ (∀ i, i < q.2.2 → hI h' 114 (ms + i) = nI (encM ms (q.2.1 i))) ∧ ms + q.2.2 ≤ q.1 ∧ p ≤ q.1 ∧ q.1 ≤ L) := by
  let h1 := setI h 118 nr (nI ms)
  have w1 : Wf rb dr jd h1 := w
  have f1 : FN 118 ms nr h h1 := FN.one (by omega) h _
  have m1 : MT h1 N t L p := m.fm (fun b i hb => f1.2 b i (by omega) (by omega) (by omega) (by omega)) (by show hI (setI h 118 nr _) 109 5 = _; rw [hI_setI, if_neg (by omega)]; exact m.2.2.2.1) m.2.2.2.2
  have g10 : hI h1 109 10 = nI ms := by
    show hI (setI h 118 nr _) 109 10 = _
    rw [hI_setI, if_neg (by omega)]
    exact e10
  have g12 : hI h1 109 12 = nI nr := by
    show hI (setI h 118 nr _) 109 12 = _
    rw [hI_setI, if_neg (by omega)]
    exact e12
  have v18 : hI h1 118 nr = nI ms := by
    show hI (setI h 118 nr _) 118 nr = _
    rw [hI_setI, if_pos ⟨rfl, rfl⟩]
  have st : rW (d + 7) 68 (67, (0, 0), [some (rz_r (some 109)), j1], [], h) = rW (d + 7) 68 (74, (0, 0), [some (rz_r (some 109)), none], [], h1) := by
    rw [X68_67]
    simp (disch := omega) only [↓cd_d, ↓irem_eq_mod, ↓ob_setI, ↓ob_chI, ↓ob_some, bI_some, bV_some, bR_some, bL_some, ob_some, cd_t, cd_f, okO_setI, okA_setI, okL_setI, aLen_setI, hR_setI, hI_setI, Bool.true_and, Bool.and_true, Bool.and_self, Option.isNone_some, Option.isSome_some, Option.isNone_none, Option.isSome_none, okO_chI, okA_chI, okL_chI, aLen_chI, hR_chI, ↓reduceIte, not_true_eq_false, not_false_eq_true, eq_self, c10, Nat.zero_add, nI_add, litA, litB, litM, nI_mul, nI_leI, nI_ltI, nI_eq, litLe, litLe2, litLt, litLt2, litEq, litEq2, in_nI, lit_in, nI_clamp, lit_cl, if_pos, if_neg, ↓WMb w, WMd w, e10, e12]
    rfl
  obtain ⟨h2, o⟩ := K67 w1 hb hL m1 g10 hms hp d
  rw [st, X68_74]
  generalize h1 = k1 at *
  rcases o with ⟨e, o1, o2, o3⟩ | ⟨q, o1, o2, s2, o4, o5, o6⟩
  · refine ⟨h2, Or.inl ⟨e, o1, ?_, o3.2, f1.tr (o3.1.fn (lo := 118)) (Nat.le_refl _) (Nat.le_refl _)⟩⟩
    simp only [bI_some, bV_some, bR_some, bL_some, ob_some, cd_t, cd_f, cd_d, okO_setI, okA_setI, okL_setI, aLen_setI, hR_setI, hI_setI, Bool.true_and, Bool.and_true, Bool.and_self, Option.isNone_some, Option.isSome_some, Option.isNone_none, Option.isSome_none, okO_chI, okA_chI, okL_chI, aLen_chI, hR_chI, ↓reduceIte, not_true_eq_false, not_false_eq_true, eq_self, c10, WMd w1, o2, X68_77]
  · have w2 : Wf rb dr jd h2 := w1.e s2.1.1
    have f2 : FN 118 ms nr h h2 := f1.tr (s2.1.fn (lo := 118)) (Nat.le_refl _) (Nat.le_refl _)
    have k10 := s2.2.2.1
    have c12 : hI h2 109 12 = nI nr := (s2.1.2 109 12 (by omega) (by omega) (by omega)).trans g12
    have c18 : hI h2 118 nr = nI ms := (s2.1.2 118 nr (by omega) (by omega) (by omega)).trans v18
    let h3 := setI h2 119 nr (nI (ms + q.2.2))
    let h4 := setI h3 109 12 (nI (nr + 1))
    have w3 : Wf rb dr jd h3 := w2
    have oo : ∀ b i, ¬ (b = 119 ∧ i = nr) → ¬ (b = 109 ∧ i = 12) → hI h4 b i = hI h2 b i := fun b i n1 n2 => by
      show hI (setI (setI h2 119 nr _) 109 12 _) b i = _
      rw [hI_setI, if_neg n2, hI_setI, if_neg n1]
    have f4 : FN 118 ms nr h h4 := f2.tr ((FN.one (lo := 118) (ms := ms) (b0 := 119) (by omega) h2 _).tr (FN.on9 (lo := 118) (ms := ms) (i0 := 12) (by omega) h3 _) (Nat.le_refl _) (Nat.le_refl _)) (Nat.le_refl _) (Nat.le_refl _)
    have d12 : hI h3 109 12 = nI nr := by
      show hI (setI h2 119 nr _) 109 12 = _
      rw [hI_setI, if_neg (by omega)]
      exact c12
    refine ⟨h4, Or.inr ⟨q, o1, ?_, f4, s2.2.1.fm (fun b i hb => oo b i (by omega) (by omega)) ((oo 109 5 (by omega) (by omega)).trans s2.2.1.2.2.2.1) s2.2.1.2.2.2.2, (oo 109 10 (by omega) (by omega)).trans k10, ?_, (oo 118 nr (by omega) (by omega)).trans c18, ?_, fun i hi => (oo 114 _ (by omega) (by omega)).trans (s2.2.2.2.1 i hi), o4, o5, o6⟩⟩
    · simp only [bI_some, bV_some, bR_some, bL_some, ob_some, cd_t, cd_f, cd_d, okO_setI, okA_setI, okL_setI, aLen_setI, hR_setI, hI_setI, Bool.true_and, Bool.and_true, Bool.and_self, Option.isNone_some, Option.isSome_some, Option.isNone_none, Option.isSome_none, okO_chI, okA_chI, okL_chI, aLen_chI, hR_chI, ↓reduceIte, not_true_eq_false, not_false_eq_true, eq_self, c10, WMd w1, o2]
      rw [X68_79]
      simp (disch := omega) only [↓cd_d, ↓irem_eq_mod, ↓ob_setI, ↓ob_chI, ↓ob_some, bI_some, bV_some, bR_some, bL_some, ob_some, cd_t, cd_f, okO_setI, okA_setI, okL_setI, aLen_setI, hR_setI, hI_setI, Bool.true_and, Bool.and_true, Bool.and_self, Option.isNone_some, Option.isSome_some, Option.isNone_none, Option.isSome_none, okO_chI, okA_chI, okL_chI, aLen_chI, hR_chI, ↓reduceIte, not_true_eq_false, not_false_eq_true, eq_self, c10, Nat.zero_add, nI_add, litA, litB, litM, nI_mul, nI_leI, nI_ltI, nI_eq, litLe, litLe2, litLt, litLt2, litEq, litEq2, in_nI, lit_in, nI_clamp, lit_cl, if_pos, if_neg, ↓WMb w2, WMd w2, k10, c12]
      rw [show setI h2 119 nr (nI (ms + q.2.2)) = h3 from rfl, X68_86]
      simp only [cd_t, (WMd w3).1, d12, nI_1]
      rw [show setI h3 109 12 (nI (nr + 1)) = h4 from rfl, X68_92]
    · show hI (setI h3 109 12 _) 109 12 = _
      rw [hI_setI, if_pos ⟨rfl, rfl⟩]
    · show hI (setI (setI h2 119 nr _) 109 12 _) 119 nr = _
      rw [hI_setI, if_neg (by omega), hI_setI, if_pos ⟨rfl, rfl⟩]
/-- a rule in the model's cells -/
def RuM (B : Nat) (h : rz_H) (ms q : Nat) (r : RU) : Prop := hI h B q = nI r.1 ∧ hI h (B + 1) q = nI ms ∧ hI h (B + 2) q = nI (ms + r.2.1.1) ∧ hI h (B + 3) q = nI (ms + r.2.1.1 + r.2.2.1)
def CoM (B : Nat) (h : rz_H) (ms : Nat) (r : RU) : Prop := (∀ i, i < r.2.1.1 → hI h B (ms + i) = nI (encM ms (r.2.1.2 i))) ∧ (∀ i, i < r.2.2.1 → hI h B (ms + r.2.1.1 + i) = nI (encM (ms + r.2.1.1) (r.2.2.2 i)))
def OcM (N : Nat) (t : Nat → Nat) (L ms nr : Nat) (h : rz_H) (u : Option rz_Res) (z : (Nat × Nat) ⊕ (Nat × RU)) : Prop := ∃ h', (∃ e, z = Sum.inl e ∧ u = some (rz_i 0, h') ∧ hI h' 109 7 = erI e.1 e.2 ∧ FN 116 ms nr h h') ∨ (∃ q, z = Sum.inr q ∧ nr < 16 ∧ u = some (rz_i 1, h') ∧ FN 116 ms nr h h' ∧ MT h' N t L q.1 ∧ hI h' 109 10 = nI (ms + q.2.2.1.1 + q.2.2.2.1) ∧ hI h' 109 12 = nI (nr + 1) ∧ RuM 116 h' ms nr q.2 ∧ CoM 114 h' ms q.2 ∧ ms + q.2.2.1.1 + q.2.2.2.1 ≤ q.1 ∧ q.1 ≤ L)
theorem K68 {rb dr : Nat} {jd : Option Nat} {h : rz_H} (w : Wf rb dr jd h) {N : Nat} {t : Nat → Nat} {L ms p nr : Nat} (hb : ∀ i, i < L → t i < 256) (hL : L ≤ 240) (m : MT h N t L p) (e10 : hI h 109 10 = nI ms) (e12 : hI h 109 12 = nI nr) (hnr : nr ≤ 16) (hms : ms ≤ p) (hp : p ≤ L) (d : Nat) : OcM N t L ms nr h (cW (d + 8) 68 [rz_r (some 109)] h) (rulT t L p nr) := by
  have pv := pkk_eq (t := t) (L := L) (p := p) (m := 118) (hb p) (by omega)
  have pa := pkk_eq (t := t) (L := L) (p := p) (m := 97) (hb p) (by omega)
  have pl := pkk_eq (t := t) (L := L) (p := p) (m := 108) (hb p) (by omega)
  have px := pkk_eq (t := t) (L := L) (p := p) (m := 120) (hb p) (by omega)
  unfold rulT
  by_cases z : p < L ∧ isRl (t p) = true
  · have zz : t p = 118 ∨ t p = 97 ∨ t p = 108 ∨ t p = 120 := of_decide_eq_true z.2
    rw [if_pos z]
    have st : cW (d + 8) 68 [rz_r (some 109)] h = rW (d + 7) 68 (21, (0, 0), [some (rz_r (some 109)), some (rz_i (nI (t p)))], [], h) := by
      rw [← pkk_in (t := t) z.1, X68]
      simp only [bI_some, bV_some, bR_some, bL_some, ob_some, cd_t, cd_f, cd_d, okO_setI, okA_setI, okL_setI, aLen_setI, hR_setI, hI_setI, Bool.true_and, Bool.and_true, Bool.and_self, Option.isNone_some, Option.isSome_some, Option.isNone_none, Option.isSome_none, okO_chI, okA_chI, okL_chI, aLen_chI, hR_chI, ↓reduceIte, not_true_eq_false, not_false_eq_true, eq_self, c10, WMd w, K49 w m, X68_3]
      by_cases y1 : pkI t L p = 118
      · simp only [y1, ↓reduceIte]
      · by_cases y2 : pkI t L p = 97
        · simp only [y1, ↓reduceIte, X68_6, bI_some, bV_some, bR_some, bL_some, ob_some, cd_t, cd_f, cd_d, okO_setI, okA_setI, okL_setI, aLen_setI, hR_setI, hI_setI, Bool.true_and, Bool.and_true, Bool.and_self, Option.isNone_some, Option.isSome_some, Option.isNone_none, Option.isSome_none, okO_chI, okA_chI, okL_chI, aLen_chI, hR_chI, ↓reduceIte, not_true_eq_false, not_false_eq_true, eq_self, c10, y2, ltsr]
        · by_cases y3 : pkI t L p = 108
          · simp only [y1, ↓reduceIte, X68_6, bI_some, bV_some, bR_some, bL_some, ob_some, cd_t, cd_f, cd_d, okO_setI, okA_setI, okL_setI, aLen_setI, hR_setI, hI_setI, Bool.true_and, Bool.and_true, Bool.and_self, Option.isNone_some, Option.isSome_some, Option.isNone_none, Option.isSome_none, okO_chI, okA_chI, okL_chI, aLen_chI, hR_chI, ↓reduceIte, not_true_eq_false, not_false_eq_true, eq_self, c10, y2, X68_9, y3, ltsr]
          · have y4 : pkI t L p = 120 := px.mpr ⟨z.1, by
              rcases zz with y | y | y | y
              · exact absurd (pv.mpr ⟨z.1, y⟩) y1
              · exact absurd (pa.mpr ⟨z.1, y⟩) y2
              · exact absurd (pl.mpr ⟨z.1, y⟩) y3
              · exact y⟩
            simp only [y1, ↓reduceIte, X68_6, bI_some, bV_some, bR_some, bL_some, ob_some, cd_t, cd_f, cd_d, okO_setI, okA_setI, okL_setI, aLen_setI, hR_setI, hI_setI, Bool.true_and, Bool.and_true, Bool.and_self, Option.isNone_some, Option.isSome_some, Option.isNone_none, Option.isSome_none, okO_chI, okA_chI, okL_chI, aLen_chI, hR_chI, ↓reduceIte, not_true_eq_false, not_false_eq_true, eq_self, c10, y2, X68_9, y3, X68_12, y4, ltsr]
    rw [st, X68_21]
    by_cases n16 : nr < 16
    · rw [if_pos n16]
      have l16 : ¬ nI nr = (16 : Int32) := fun y => by
        have := (nI_eq (a := nr) (b := 16) (by omega) (by omega)).mp y
        omega
      let h1 := setI h 116 nr (nI (t p))
      let h2 := setI h1 109 5 (nI (p + 1))
      let h3 := setI h2 117 nr (nI ms)
      let h4 := setI h3 109 9 0
      let h5 := setI h4 109 11 0
      have w1 : Wf rb dr jd h1 := w
      have w2 : Wf rb dr jd h2 := w
      have w3 : Wf rb dr jd h3 := w
      have w4 : Wf rb dr jd h4 := w
      have w5 : Wf rb dr jd h5 := w
      have f5 : FN 116 ms nr h h5 := (FN.one (b0 := 116) (by omega) h _).tr ((FN.on9 (lo := 116) (ms := ms) (nr := nr) (i0 := 5) (by omega) h1 _).tr ((FN.one (lo := 116) (ms := ms) (b0 := 117) (by omega) h2 _).tr ((FN.on9 (lo := 116) (ms := ms) (nr := nr) (i0 := 9) (by omega) h3 _).tr (FN.on9 (lo := 116) (ms := ms) (nr := nr) (i0 := 11) (by omega) h4 _) (Nat.le_refl _) (Nat.le_refl _)) (Nat.le_refl _) (Nat.le_refl _)) (Nat.le_refl _) (Nat.le_refl _)) (Nat.le_refl _) (Nat.le_refl _)
      have oo : ∀ b i, ¬ (b = 116 ∧ i = nr) → ¬ (b = 117 ∧ i = nr) → ¬ (b = 109 ∧ (i = 5 ∨ i = 9 ∨ i = 11)) → hI h5 b i = hI h b i := fun b i n1 n2 n3 => by
        show hI (setI (setI (setI (setI (setI h 116 nr _) 109 5 _) 117 nr _) 109 9 _) 109 11 _) b i = _
        rw [hI_setI, if_neg (by omega), hI_setI, if_neg (by omega), hI_setI, if_neg n2, hI_setI, if_neg (by omega), hI_setI, if_neg n1]
      have v116 : hI h5 116 nr = nI (t p) := by
        show hI (setI (setI (setI (setI (setI h 116 nr _) 109 5 _) 117 nr _) 109 9 _) 109 11 _) 116 nr = _
        rw [hI_setI, if_neg (by omega), hI_setI, if_neg (by omega), hI_setI, if_neg (by omega), hI_setI, if_neg (by omega), hI_setI, if_pos ⟨rfl, rfl⟩]
      have v117 : hI h5 117 nr = nI ms := by
        show hI (setI (setI (setI h2 117 nr _) 109 9 _) 109 11 _) 117 nr = _
        rw [hI_setI, if_neg (by omega), hI_setI, if_neg (by omega), hI_setI, if_pos ⟨rfl, rfl⟩]
      have v5 : hI h5 109 5 = nI (p + 1) := by
        show hI (setI (setI (setI (setI h1 109 5 _) 117 nr _) 109 9 _) 109 11 _) 109 5 = _
        rw [hI_setI, if_neg (by omega), hI_setI, if_neg (by omega), hI_setI, if_neg (by omega), hI_setI, if_pos ⟨rfl, rfl⟩]
      have v9 : hI h5 109 9 = 0 := by
        show hI (setI (setI h3 109 9 0) 109 11 0) 109 9 = _
        rw [hI_setI, if_neg (by omega), hI_setI, if_pos ⟨rfl, rfl⟩]
      have v11 : hI h5 109 11 = 0 := by
        show hI (setI h4 109 11 0) 109 11 = _
        rw [hI_setI, if_pos ⟨rfl, rfl⟩]
      have m5 : MT h5 N t L (p + 1) := m.fm (fun b i hb => oo b i (by omega) (by omega) (by omega)) v5 (by omega)
      have k10 : hI h5 109 10 = nI ms := (oo 109 10 (by omega) (by omega) (by omega)).trans e10
      have c12 : hI h5 109 12 = nI nr := (oo 109 12 (by omega) (by omega) (by omega)).trans e12
      have i5 : hI h1 109 5 = nI p := by
        show hI (setI h 116 nr _) 109 5 = _
        rw [hI_setI, if_neg (by omega)]
        exact m.2.2.2.1
      have i10 : hI h2 109 10 = nI ms := by
        show hI (setI (setI h 116 nr _) 109 5 _) 109 10 = _
        rw [hI_setI, if_neg (by omega), hI_setI, if_neg (by omega)]
        exact e10
      have i12 : hI h2 109 12 = nI nr := by
        show hI (setI (setI h 116 nr _) 109 5 _) 109 12 = _
        rw [hI_setI, if_neg (by omega), hI_setI, if_neg (by omega)]
        exact e12
      have st2 : rW (d + 7) 68 (31, (0, 0), [some (rz_r (some 109)), some (rz_i (nI (t p)))], [], h) = rW (d + 7) 68 (56, (0, 0), [some (rz_r (some 109)), some (rz_i (nI (t p)))], [], h5) := by
        rw [X68_31]
        simp (disch := omega) only [↓cd_d, ↓irem_eq_mod, ↓ob_setI, ↓ob_chI, ↓ob_some, bI_some, bV_some, bR_some, bL_some, ob_some, cd_t, cd_f, okO_setI, okA_setI, okL_setI, aLen_setI, hR_setI, hI_setI, Bool.true_and, Bool.and_true, Bool.and_self, Option.isNone_some, Option.isSome_some, Option.isNone_none, Option.isSome_none, okO_chI, okA_chI, okL_chI, aLen_chI, hR_chI, ↓reduceIte, not_true_eq_false, not_false_eq_true, eq_self, c10, Nat.zero_add, nI_add, litA, litB, litM, nI_mul, nI_leI, nI_ltI, nI_eq, litLe, litLe2, litLt, litLt2, litEq, litEq2, in_nI, lit_in, nI_clamp, lit_cl, if_pos, if_neg, ↓WMb w, WMd w, e12]
        rw [show setI h 116 nr (nI (t p)) = h1 from rfl, X68_37]
        simp only [cd_t, (WMd w1).1, i5, nI_1]
        rw [show setI h1 109 5 (nI (p + 1)) = h2 from rfl, X68_43]
        have e3 : setI h2 117 nr (nI ms) = h3 := rfl
        generalize h2 = k2 at *
        simp (disch := omega) only [↓cd_d, ↓irem_eq_mod, ↓ob_setI, ↓ob_chI, ↓ob_some, bI_some, bV_some, bR_some, bL_some, ob_some, cd_t, cd_f, okO_setI, okA_setI, okL_setI, aLen_setI, hR_setI, hI_setI, Bool.true_and, Bool.and_true, Bool.and_self, Option.isNone_some, Option.isSome_some, Option.isNone_none, Option.isSome_none, okO_chI, okA_chI, okL_chI, aLen_chI, hR_chI, ↓reduceIte, not_true_eq_false, not_false_eq_true, eq_self, c10, Nat.zero_add, nI_add, litA, litB, litM, nI_mul, nI_leI, nI_ltI, nI_eq, litLe, litLe2, litLt, litLt2, litEq, litEq2, in_nI, lit_in, nI_clamp, lit_cl, if_pos, if_neg, ↓WMb w2, WMd w2, i10, i12]
        rw [e3, X68_50]
        simp only [cd_t, (WMd w3).1]
        rw [show setI h3 109 9 0 = h4 from rfl, X68_53]
        simp only [cd_t, (WMd w4).1]
        rfl
      simp only [bI_some, bV_some, bR_some, bL_some, ob_some, cd_t, cd_f, cd_d, okO_setI, okA_setI, okL_setI, aLen_setI, hR_setI, hI_setI, Bool.true_and, Bool.and_true, Bool.and_self, Option.isNone_some, Option.isSome_some, Option.isNone_none, Option.isSome_none, okO_chI, okA_chI, okL_chI, aLen_chI, hR_chI, ↓reduceIte, not_true_eq_false, not_false_eq_true, eq_self, c10, WMd w, e12, l16]
      rw [st2, X68_56]
      clear st2 i5 i10 i12 w1 w2 w3 w4
      generalize h5 = k at *
      /- the rest, from the amount's end on -/
      have fin : ∀ k' A p' j1, FN 116 ms nr h k' → MT k' N t L p' → hI k' 109 10 = nI (ms + A.1) → hI k' 109 12 = nI nr → hI k' 116 nr = nI (t p) → hI k' 117 nr = nI ms → (∀ i, i < A.1 → hI k' 114 (ms + i) = nI (encM ms (A.2 i))) → ms + A.1 ≤ p' → p' ≤ L → OcM N t L ms nr h (rW (d + 7) 68 (67, (0, 0), [some (rz_r (some 109)), j1], [], k')) (tailT t L (t p) A p') := by
        intro k' A p' j1 fk mk a10 a12 a116 a117 cod le1 le2
        have wk : Wf rb dr jd k' := w.e fk.1
        obtain ⟨h', o⟩ := K68t wk hb hL mk a10 a12 n16 le1 le2 d j1
        rw [tail_R]
        rcases o with ⟨e, o1, o2, o3, o4⟩ | ⟨q, o1, o2, o3, o4, o5, o6, o7, o8, o9, o10, o11, o12⟩
        · rw [o1]
          exact ⟨h', Or.inl ⟨e, rfl, o2, o3, fk.tr o4 (by omega) (by omega)⟩⟩
        · rw [o1]
          exact ⟨h', Or.inr ⟨_, rfl, n16, o2, fk.tr o3 (by omega) (by omega), o4, o5, o6, ⟨(o3.2 116 nr (by omega) (by omega) (by omega) (by omega)).trans a116, (o3.2 117 nr (by omega) (by omega) (by omega) (by omega)).trans a117, o7, o8⟩, ⟨fun i hi => (o3.2 114 (ms + i) (by omega) (by have hi : i < A.1 := hi; omega) (by omega) (by omega)).trans (cod i hi), o9⟩, o10, o12⟩⟩
      by_cases ha : hasA (t p) = true
      · have ha2 : t p = 118 ∨ t p = 97 := of_decide_eq_true ha
        have na : ¬ nI (t p) = (108 : Int32) := fun y => by
          have := (nI_eq (a := t p) (b := 108) (by have := hb p z.1; omega) (by omega)).mp y
          omega
        have nb : ¬ nI (t p) = (120 : Int32) := fun y => by
          have := (nI_eq (a := t p) (b := 120) (by have := hb p z.1; omega) (by omega)).mp y
          omega
        rw [if_pos ha]
        simp only [bI_some, bV_some, bR_some, bL_some, ob_some, cd_t, cd_f, cd_d, okO_setI, okA_setI, okL_setI, aLen_setI, hR_setI, hI_setI, Bool.true_and, Bool.and_true, Bool.and_self, Option.isNone_some, Option.isSome_some, Option.isNone_none, Option.isSome_none, okO_chI, okA_chI, okL_chI, aLen_chI, hR_chI, ↓reduceIte, not_true_eq_false, not_false_eq_true, eq_self, c10, na, X68_59, nb, X68_62]
        have s : MS k k N t L ms (p + 1) czz 0 [] 0 := MS.st m5 k10 k ⟨rfl, fun _ _ _ _ _ => rfl⟩ rfl rfl v11 v9
        obtain ⟨h6, o⟩ := K62 w5 (K := 0) (g := 6) hb hL (Or.inl rfl) s (by omega) (by omega) (by show 0 ≤ p + 1; omega) (by omega) (d + 2)
        rcases o with ⟨e, o1, o2, o3⟩ | ⟨q, o1, o2, s6, o4, o5, o6⟩
        · rw [o1]
          refine ⟨h6, Or.inl ⟨e, rfl, ?_, o3.2, f5.tr (o3.1.fn (lo := 116)) (Nat.le_refl _) (Nat.le_refl _)⟩⟩
          have o2 : cW (d + 7) 62 [rz_r (some 109)] k = some (rz_i 0, h6) := o2
          simp only [bI_some, bV_some, bR_some, bL_some, ob_some, cd_t, cd_f, cd_d, okO_setI, okA_setI, okL_setI, aLen_setI, hR_setI, hI_setI, Bool.true_and, Bool.and_true, Bool.and_self, Option.isNone_some, Option.isSome_some, Option.isNone_none, Option.isSome_none, okO_chI, okA_chI, okL_chI, aLen_chI, hR_chI, ↓reduceIte, not_true_eq_false, not_false_eq_true, eq_self, c10, WMd w5, o2, X68_65]
        · rw [o1]
          have o2 : cW (d + 7) 62 [rz_r (some 109)] k = some (rz_i 1, h6) := o2
          simp only [bI_some, bV_some, bR_some, bL_some, ob_some, cd_t, cd_f, cd_d, okO_setI, okA_setI, okL_setI, aLen_setI, hR_setI, hI_setI, Bool.true_and, Bool.and_true, Bool.and_self, Option.isNone_some, Option.isSome_some, Option.isNone_none, Option.isSome_none, okO_chI, okA_chI, okL_chI, aLen_chI, hR_chI, ↓reduceIte, not_true_eq_false, not_false_eq_true, eq_self, c10, WMd w5, o2]
          exact fin h6 (q.2.2, q.2.1) q.1 _ (f5.tr (s6.1.fn (lo := 116)) (Nat.le_refl _) (Nat.le_refl _)) s6.2.1 s6.2.2.1 ((s6.1.2 109 12 (by omega) (by omega) (by omega)).trans c12) ((s6.1.2 116 nr (by omega) (by omega) (by omega)).trans v116) ((s6.1.2 117 nr (by omega) (by omega) (by omega)).trans v117) s6.2.2.2.1 (by show ms + q.2.2 ≤ q.1; omega) o6
      · have ha2 : t p = 108 ∨ t p = 120 := by
          have : ¬ (t p = 118 ∨ t p = 97) := fun y => ha (decide_eq_true y)
          omega
        rw [if_neg ha]
        have st3 : (if nI (t p) = (108 : Int32) then rW (d + 7) 68 (67, (0, 0), [some (rz_r (some 109)), some (rz_i (nI (t p)))], [], k) else rW (d + 7) 68 (59, (0, 0), [some (rz_r (some 109)), some (rz_i (nI (t p)))], [], k)) = rW (d + 7) 68 (67, (0, 0), [some (rz_r (some 109)), some (rz_i (nI (t p)))], [], k) := by
          rcases ha2 with y | y
          · rw [y, if_pos (show nI 108 = (108 : Int32) from rfl)]
          · have l : ¬ nI 120 = (108 : Int32) := by decide
            rw [y, if_neg l, X68_59]
            rfl
        simp only [cd_d]
        rw [st3]
        exact fin k (0, czz) (p + 1) _ f5 m5 k10 c12 v116 v117 (fun i hi => absurd hi (by show ¬ i < 0; omega)) (by show ms + 0 ≤ p + 1; omega) (by omega)
    · have e16 : hI h 109 12 = 16 := by
        rw [e12, show nr = 16 by omega]
        rfl
      have k51 := fun d => K51 w 4 p d
      rw [show nI 4 = (4 : Int32) from rfl] at k51
      rw [if_neg n16]
      refine ⟨setI h 109 7 (erI 4 p), Or.inl ⟨_, rfl, ?_, by rw [hI_setI, if_pos ⟨rfl, rfl⟩], FN.on9 (by omega) h _⟩⟩
      simp only [bI_some, bV_some, bR_some, bL_some, ob_some, cd_t, cd_f, cd_d, okO_setI, okA_setI, okL_setI, aLen_setI, hR_setI, hI_setI, Bool.true_and, Bool.and_true, Bool.and_self, Option.isNone_some, Option.isSome_some, Option.isNone_none, Option.isSome_none, okO_chI, okA_chI, okL_chI, aLen_chI, hR_chI, ↓reduceIte, not_true_eq_false, not_false_eq_true, eq_self, c10, WMd w, e16, X68_25, m.2.2.2.1, k51]
      rfl
  · have y : ∀ a, a = 118 ∨ a = 97 ∨ a = 108 ∨ a = 120 → ¬ pkI t L p = nI a := fun a ha e => by
      have q := (pkk_eq (t := t) (L := L) (p := p) (m := a) (hb p) (by omega)).mp e
      exact z ⟨q.1, decide_eq_true (by rw [q.2]; exact ha)⟩
    have y1 : ¬ pkI t L p = 118 := y 118 (by omega)
    have y2 : ¬ pkI t L p = 97 := y 97 (by omega)
    have y3 : ¬ pkI t L p = 108 := y 108 (by omega)
    have y4 : ¬ pkI t L p = 120 := y 120 (by omega)
    have k51 := fun d => K51 w 1 p d
    rw [show nI 1 = (1 : Int32) from rfl] at k51
    rw [if_neg z]
    refine ⟨setI h 109 7 (erI 1 p), Or.inl ⟨_, rfl, ?_, by rw [hI_setI, if_pos ⟨rfl, rfl⟩], FN.on9 (by omega) h _⟩⟩
    rw [X68]
    simp only [bI_some, bV_some, bR_some, bL_some, ob_some, cd_t, cd_f, cd_d, okO_setI, okA_setI, okL_setI, aLen_setI, hR_setI, hI_setI, Bool.true_and, Bool.and_true, Bool.and_self, Option.isNone_some, Option.isSome_some, Option.isNone_none, Option.isSome_none, okO_chI, okA_chI, okL_chI, aLen_chI, hR_chI, ↓reduceIte, not_true_eq_false, not_false_eq_true, eq_self, c10, WMd w, K49 w m, X68_3, y1, X68_6, y2, X68_9, y3, X68_12, y4, X68_15, m.2.2.2.1, k51]
    rfl
