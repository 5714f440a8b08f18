/-! the law's text: the class's reader, rows of tests -/
theorem L210 {rb dr : Nat} {jd : Option Nat} {h0 : rz_H} (w0 : Wf rb dr jd h0) {N : Nat} {t : Nat → Nat} (T0 : Tq h0 N t) {L : Nat} (hL : L ≤ N) (h240 : L ≤ 240) {cs dep : Nat} {R : Nat → CC → Nat → RC} {B : Nat} (hs : Sp L true B R) {d : Nat} (hi : SC dr cs h0 L 211 (d + 7) dep R) : ∀ f i h p c n, i + f = 240 → Lz dr cs h0 h L p c n → p ≤ L → cs + n ≤ p → ∃ h', (∀ j3, rW (d + 7) 210 (5, (0, 0), [some (rz_r (some 81)), some (rz_i (nI dep)), some (rz_i (nI i)), j3], [], h) = some (rz_i 0, h')) ∧ Oz dr cs h0 h' L (jlp t L R 38 5 f p c n) := by
  intro f
  induction f with
  | zero =>
    intro i h p c n hf s hp hr
    refine ⟨h, fun j3 => ?_, Or.inr ⟨_, rfl, s⟩⟩
    have g : (240 : Int32) ≤ nI i := nI_le (a := 240) (by omega) (by omega)
    rw [X210_5]
    simp only [bI_some, bV_some, bR_some, bL_some, ob_some, cd_t, cd_f, cd_d, okO_setI, okA_setI, okL_setI, aLen_setI, hR_setI, hI_setI, Bool.true_and, Bool.and_true, Bool.and_self, Option.isNone_some, Option.isSome_some, Option.isNone_none, Option.isSome_none, okO_chI, okA_chI, okL_chI, aLen_chI, hR_chI, ↓reduceIte, not_true_eq_false, not_false_eq_true, eq_self, c10, g, X210_29]
  | succ f ih =>
    intro i h p c n hf s hp hroom
    have hd := isW_dr w0
    have w : Wf rb dr jd h := w0.e s.1.1
    have T := T0.fe hd s.1.fe
    have hN := T.1.1
    have r := s.2.1
    have hb : p < L → t p < 256 := fun q => (T.1.2 p (by omega)).1
    have pk := fun d => R227 w isR81 T hL r.1 r.2.1 (by omega) r.2.2 d
    have g : ¬ (240 : Int32) ≤ nI i := nI_ge (b := 240) (by omega) (by omega)
    have q1 : pkI t L p = 38 ↔ p < L ∧ t p = 38 := pkk_eq (m := 38) hb (by omega)
    unfold jlp
    by_cases c1 : p < L ∧ t p = 38
    · rw [if_pos c1]
      have s1 : Lz dr cs h0 (setI h 81 2 (nI (p + 1))) L (p + 1) c n := s.go hd (p + 1)
      have w1 : Wf rb dr jd (setI h 81 2 (nI (p + 1))) := w
      obtain ⟨h2, e2, s2⟩ := s1.add w0 (by omega) (5, 0) (d + 6)
      rw [vl0] at e2
      have e2 : cW (d + 7) 197 [rz_r (some dr), rz_i 5, rz_i 0] (setI h 81 2 (nI (p + 1))) = some (rz_i (nI (cs + n)), h2) := e2
      have w2 : Wf rb dr jd h2 := w0.e s2.1.1
      obtain ⟨h3, e3, o3⟩ := hi h2 (p + 1) (psh c n (5, 0)) (n + 1) s2 (by omega) (by omega)
      have st : ∀ j3, rW (d + 7) 210 (5, (0, 0), [some (rz_r (some 81)), some (rz_i (nI dep)), some (rz_i (nI i)), j3], [], h) = rW (d + 7) 210 (23, (0, 0), [some (rz_r (some 81)), some (rz_i (nI dep)), some (rz_i (nI i)), some (rz_i (nI (cs + n)))], [], h3) := fun j3 => by
        have b5 := obR (WLr w1).2.2.2
        rw [X210_5]
        simp only [bI_some, bV_some, bR_some, bL_some, ob_some, cd_t, cd_f, cd_d, okO_setI, okA_setI, okL_setI, aLen_setI, hR_setI, hI_setI, Bool.true_and, Bool.and_true, Bool.and_self, Option.isNone_some, Option.isSome_some, Option.isNone_none, Option.isSome_none, okO_chI, okA_chI, okL_chI, aLen_chI, hR_chI, ↓reduceIte, not_true_eq_false, not_false_eq_true, eq_self, c10, g]
        rw [X210_8, pk]
        simp only [bI_some, bV_some, bR_some, bL_some, ob_some, cd_t, cd_f, cd_d, okO_setI, okA_setI, okL_setI, aLen_setI, hR_setI, hI_setI, Bool.true_and, Bool.and_true, Bool.and_self, Option.isNone_some, Option.isSome_some, Option.isNone_none, Option.isSome_none, okO_chI, okA_chI, okL_chI, aLen_chI, hR_chI, ↓reduceIte, not_true_eq_false, not_false_eq_true, eq_self, c10, WLr w, q1.mpr c1]
        rw [X210_12]
        simp only [bI_some, bV_some, bR_some, bL_some, ob_some, cd_t, cd_f, cd_d, okO_setI, okA_setI, okL_setI, aLen_setI, hR_setI, hI_setI, Bool.true_and, Bool.and_true, Bool.and_self, Option.isNone_some, Option.isSome_some, Option.isNone_none, Option.isSome_none, okO_chI, okA_chI, okL_chI, aLen_chI, hR_chI, ↓reduceIte, not_true_eq_false, not_false_eq_true, eq_self, c10, WLr w, R229 w isR81 r.2.1]
        rw [X210_14]
        generalize setI h 81 2 (nI (p + 1)) = g1 at *
        simp only [bI_some, bV_some, bR_some, bL_some, ob_some, cd_t, cd_f, cd_d, okO_setI, okA_setI, okL_setI, aLen_setI, hR_setI, hI_setI, Bool.true_and, Bool.and_true, Bool.and_self, Option.isNone_some, Option.isSome_some, Option.isNone_none, Option.isSome_none, okO_chI, okA_chI, okL_chI, aLen_chI, hR_chI, ↓reduceIte, not_true_eq_false, not_false_eq_true, eq_self, c10, WLr w1, ↓b5, WLw w1 hd, e2]
        rw [X210_20, e3]
        simp only [bI_some, bV_some, bR_some, bL_some, ob_some, cd_t, cd_f, cd_d, okO_setI, okA_setI, okL_setI, aLen_setI, hR_setI, hI_setI, Bool.true_and, Bool.and_true, Bool.and_self, Option.isNone_some, Option.isSome_some, Option.isNone_none, Option.isSome_none, okO_chI, okA_chI, okL_chI, aLen_chI, hR_chI, ↓reduceIte, not_true_eq_false, not_false_eq_true, eq_self, c10, WLr w2]
      rcases o3 with ⟨e, he, le⟩ | ⟨q, hq, s3⟩
      · rw [he]
        have w3 : Wf rb dr jd h3 := w0.e le.1.1
        obtain ⟨h4, e4, le4⟩ := le.aim w0 (nI (cs + n)) (d + 6)
        have w4 : Wf rb dr jd h4 := w0.e le4.1.1
        refine ⟨h4, fun j3 => ?_, Or.inl ⟨e, rfl, le4⟩⟩
        have b5 := obR (WLr w3).2.2.2
        rw [st j3, X210_23]
        simp only [bI_some, bV_some, bR_some, bL_some, ob_some, cd_t, cd_f, cd_d, okO_setI, okA_setI, okL_setI, aLen_setI, hR_setI, hI_setI, Bool.true_and, Bool.and_true, Bool.and_self, Option.isNone_some, Option.isSome_some, Option.isNone_none, Option.isSome_none, okO_chI, okA_chI, okL_chI, aLen_chI, hR_chI, ↓reduceIte, not_true_eq_false, not_false_eq_true, eq_self, c10, WLr w3, ↓b5, WLw w3 hd, e4, X210_27, X210_28]
        exact L210e w4 le4.ne _ _ (d + 4) _
      · rw [hq]
        have gg := hs.at (by omega) hq
        have gL := gg.1
        have gn := gg.2.2.1
        have g0 := gg.2.1
        have ck : q.2.1 n = (5, 0) := (gg.2.2.2.1 n (by omega)).trans (if_pos rfl)
        have w3 : Wf rb dr jd h3 := w0.e s3.1.1
        obtain ⟨h4, e4, s4⟩ := s3.aim w0 (j := n) (by omega) (by omega) (by rw [ck]; show 5 = 4 ∨ 5 = 5; omega) (d + 6)
        obtain ⟨h', e, o⟩ := ih (i + 1) h4 q.1 (aimC q.2.1 n q.2.2) q.2.2 (by omega) s4 gL (by omega)
        refine ⟨h', fun j3 => ?_, o⟩
        have b5 := obR (WLr w3).2.2.2
        rw [st j3, X210_23]
        simp only [bI_some, bV_some, bR_some, bL_some, ob_some, cd_t, cd_f, cd_d, okO_setI, okA_setI, okL_setI, aLen_setI, hR_setI, hI_setI, Bool.true_and, Bool.and_true, Bool.and_self, Option.isNone_some, Option.isSome_some, Option.isNone_none, Option.isSome_none, okO_chI, okA_chI, okL_chI, aLen_chI, hR_chI, ↓reduceIte, not_true_eq_false, not_false_eq_true, eq_self, c10, WLr w3, ↓b5, WLw w3 hd, e4, X210_27, X210_28, nI_1]
        exact e _
    · rw [if_neg c1]
      refine ⟨h, fun j3 => ?_, Or.inr ⟨_, rfl, s⟩⟩
      have d1 : ¬ pkI t L p = 38 := fun z => c1 (q1.mp z)
      rw [X210_5]
      simp only [bI_some, bV_some, bR_some, bL_some, ob_some, cd_t, cd_f, cd_d, okO_setI, okA_setI, okL_setI, aLen_setI, hR_setI, hI_setI, Bool.true_and, Bool.and_true, Bool.and_self, Option.isNone_some, Option.isSome_some, Option.isNone_none, Option.isSome_none, okO_chI, okA_chI, okL_chI, aLen_chI, hR_chI, ↓reduceIte, not_true_eq_false, not_false_eq_true, eq_self, c10, g]
      rw [X210_8, pk]
      simp only [bI_some, bV_some, bR_some, bL_some, ob_some, cd_t, cd_f, cd_d, okO_setI, okA_setI, okL_setI, aLen_setI, hR_setI, hI_setI, Bool.true_and, Bool.and_true, Bool.and_self, Option.isNone_some, Option.isSome_some, Option.isNone_none, Option.isSome_none, okO_chI, okA_chI, okL_chI, aLen_chI, hR_chI, ↓reduceIte, not_true_eq_false, not_false_eq_true, eq_self, c10, WLr w, d1, X210_29]
theorem C210 {rb dr : Nat} {jd : Option Nat} {h0 : rz_H} (w0 : Wf rb dr jd h0) {N : Nat} {t : Nat → Nat} (T0 : Tq h0 N t) {L : Nat} (hL : L ≤ N) (h240 : L ≤ 240) {cs dep : Nat} {R : Nat → CC → Nat → RC} {B : Nat} (hs : Sp L true B R) {d : Nat} (hi : SC dr cs h0 L 211 (d + 7) dep R) : SC dr cs h0 L 210 (d + 8) dep (fun p c n => cbd (R p c n) (jlp t L R 38 5 240)) := by
  intro h p c n s hp hroom
  have w : Wf rb dr jd h := w0.e s.1.1
  obtain ⟨h1, e1, o1⟩ := hi h p c n s hp hroom
  have st : cW (d + 8) 210 [rz_r (some 81), rz_i (nI dep)] h = rW (d + 7) 210 (5, (0, 0), [some (rz_r (some 81)), some (rz_i (nI dep)), some (rz_i (nI 0)), none], [], h1) := by
    rw [X210, e1]
    simp only [bI_some, bV_some, bR_some, bL_some, ob_some, cd_t, cd_f, cd_d, okO_setI, okA_setI, okL_setI, aLen_setI, hR_setI, hI_setI, Bool.true_and, Bool.and_true, Bool.and_self, Option.isNone_some, Option.isSome_some, Option.isNone_none, Option.isSome_none, okO_chI, okA_chI, okL_chI, aLen_chI, hR_chI, ↓reduceIte, not_true_eq_false, not_false_eq_true, eq_self, c10, WLr w, X210_3]
    rfl
  rw [st]
  show ∃ h', _ ∧ Oz dr cs h0 h' L (cbd (R p c n) (jlp t L R 38 5 240))
  rcases o1 with ⟨e, he, le⟩ | ⟨q, hq, s1⟩
  · rw [he]
    have w1 : Wf rb dr jd h1 := w0.e le.1.1
    exact ⟨h1, L210e w1 le.ne _ _ (d + 4) _, Or.inl ⟨e, rfl, le⟩⟩
  · rw [hq]
    have gg := hs.at hp hq
    have gn := gg.2.2.1
    obtain ⟨h', e, o⟩ := L210 w0 T0 hL h240 hs hi 240 0 h1 q.1 q.2.1 q.2.2 (by omega) s1 gg.1 (by omega)
    exact ⟨h', e _, o⟩
theorem L209 {rb dr : Nat} {jd : Option Nat} {h0 : rz_H} (w0 : Wf rb dr jd h0) {N : Nat} {t : Nat → Nat} (T0 : Tq h0 N t) {L : Nat} (hL : L ≤ N) (h240 : L ≤ 240) {cs dep : Nat} {R : Nat → CC → Nat → RC} {B : Nat} (hs : Sp L true B R) {d : Nat} (hi : SC dr cs h0 L 210 (d + 8) dep R) : ∀ f i h p c n, i + f = 240 → Lz dr cs h0 h L p c n → p ≤ L → cs + n ≤ p → ∃ h', (∀ j3, rW (d + 8) 209 (5, (0, 0), [some (rz_r (some 81)), some (rz_i (nI dep)), some (rz_i (nI i)), j3], [], h) = some (rz_i 0, h')) ∧ Oz dr cs h0 h' L (jlp t L R 124 4 f p c n) := by
  intro f
  induction f with
  | zero =>
    intro i h p c n hf s hp hr
    refine ⟨h, fun j3 => ?_, Or.inr ⟨_, rfl, s⟩⟩
    have g : (240 : Int32) ≤ nI i := nI_le (a := 240) (by omega) (by omega)
    rw [X209_5]
    simp only [bI_some, bV_some, bR_some, bL_some, ob_some, cd_t, cd_f, cd_d, okO_setI, okA_setI, okL_setI, aLen_setI, hR_setI, hI_setI, Bool.true_and, Bool.and_true, Bool.and_self, Option.isNone_some, Option.isSome_some, Option.isNone_none, Option.isSome_none, okO_chI, okA_chI, okL_chI, aLen_chI, hR_chI, ↓reduceIte, not_true_eq_false, not_false_eq_true, eq_self, c10, g, X209_29]
  | succ f ih =>
    intro i h p c n hf s hp hroom
    have hd := isW_dr w0
    have w : Wf rb dr jd h := w0.e s.1.1
    have T := T0.fe hd s.1.fe
    have hN := T.1.1
    have r := s.2.1
    have hb : p < L → t p < 256 := fun q => (T.1.2 p (by omega)).1
    have pk := fun d => R227 w isR81 T hL r.1 r.2.1 (by omega) r.2.2 d
    have g : ¬ (240 : Int32) ≤ nI i := nI_ge (b := 240) (by omega) (by omega)
    have q1 : pkI t L p = 124 ↔ p < L ∧ t p = 124 := pkk_eq (m := 124) hb (by omega)
    unfold jlp
    by_cases c1 : p < L ∧ t p = 124
    · rw [if_pos c1]
      have s1 : Lz dr cs h0 (setI h 81 2 (nI (p + 1))) L (p + 1) c n := s.go hd (p + 1)
      have w1 : Wf rb dr jd (setI h 81 2 (nI (p + 1))) := w
      obtain ⟨h2, e2, s2⟩ := s1.add w0 (by omega) (4, 0) (d + 7)
      rw [vl0] at e2
      have e2 : cW (d + 8) 197 [rz_r (some dr), rz_i 4, rz_i 0] (setI h 81 2 (nI (p + 1))) = some (rz_i (nI (cs + n)), h2) := e2
      have w2 : Wf rb dr jd h2 := w0.e s2.1.1
      obtain ⟨h3, e3, o3⟩ := hi h2 (p + 1) (psh c n (4, 0)) (n + 1) s2 (by omega) (by omega)
      have st : ∀ j3, rW (d + 8) 209 (5, (0, 0), [some (rz_r (some 81)), some (rz_i (nI dep)), some (rz_i (nI i)), j3], [], h) = rW (d + 8) 209 (23, (0, 0), [some (rz_r (some 81)), some (rz_i (nI dep)), some (rz_i (nI i)), some (rz_i (nI (cs + n)))], [], h3) := fun j3 => by
        have b5 := obR (WLr w1).2.2.2
        rw [X209_5]
        simp only [bI_some, bV_some, bR_some, bL_some, ob_some, cd_t, cd_f, cd_d, okO_setI, okA_setI, okL_setI, aLen_setI, hR_setI, hI_setI, Bool.true_and, Bool.and_true, Bool.and_self, Option.isNone_some, Option.isSome_some, Option.isNone_none, Option.isSome_none, okO_chI, okA_chI, okL_chI, aLen_chI, hR_chI, ↓reduceIte, not_true_eq_false, not_false_eq_true, eq_self, c10, g]
        rw [X209_8, pk]
        simp only [bI_some, bV_some, bR_some, bL_some, ob_some, cd_t, cd_f, cd_d, okO_setI, okA_setI, okL_setI, aLen_setI, hR_setI, hI_setI, Bool.true_and, Bool.and_true, Bool.and_self, Option.isNone_some, Option.isSome_some, Option.isNone_none, Option.isSome_none, okO_chI, okA_chI, okL_chI, aLen_chI, hR_chI, ↓reduceIte, not_true_eq_false, not_false_eq_true, eq_self, c10, WLr w, q1.mpr c1]
        rw [X209_12]
        simp only [bI_some, bV_some, bR_some, bL_some, ob_some, cd_t, cd_f, cd_d, okO_setI, okA_setI, okL_setI, aLen_setI, hR_setI, hI_setI, Bool.true_and, Bool.and_true, Bool.and_self, Option.isNone_some, Option.isSome_some, Option.isNone_none, Option.isSome_none, okO_chI, okA_chI, okL_chI, aLen_chI, hR_chI, ↓reduceIte, not_true_eq_false, not_false_eq_true, eq_self, c10, WLr w, R229 w isR81 r.2.1]
        rw [X209_14]
        generalize setI h 81 2 (nI (p + 1)) = g1 at *
        simp only [bI_some, bV_some, bR_some, bL_some, ob_some, cd_t, cd_f, cd_d, okO_setI, okA_setI, okL_setI, aLen_setI, hR_setI, hI_setI, Bool.true_and, Bool.and_true, Bool.and_self, Option.isNone_some, Option.isSome_some, Option.isNone_none, Option.isSome_none, okO_chI, okA_chI, okL_chI, aLen_chI, hR_chI, ↓reduceIte, not_true_eq_false, not_false_eq_true, eq_self, c10, WLr w1, ↓b5, WLw w1 hd, e2]
        rw [X209_20, e3]
        simp only [bI_some, bV_some, bR_some, bL_some, ob_some, cd_t, cd_f, cd_d, okO_setI, okA_setI, okL_setI, aLen_setI, hR_setI, hI_setI, Bool.true_and, Bool.and_true, Bool.and_self, Option.isNone_some, Option.isSome_some, Option.isNone_none, Option.isSome_none, okO_chI, okA_chI, okL_chI, aLen_chI, hR_chI, ↓reduceIte, not_true_eq_false, not_false_eq_true, eq_self, c10, WLr w2]
      rcases o3 with ⟨e, he, le⟩ | ⟨q, hq, s3⟩
      · rw [he]
        have w3 : Wf rb dr jd h3 := w0.e le.1.1
        obtain ⟨h4, e4, le4⟩ := le.aim w0 (nI (cs + n)) (d + 7)
        have w4 : Wf rb dr jd h4 := w0.e le4.1.1
        refine ⟨h4, fun j3 => ?_, Or.inl ⟨e, rfl, le4⟩⟩
        have b5 := obR (WLr w3).2.2.2
        rw [st j3, X209_23]
        simp only [bI_some, bV_some, bR_some, bL_some, ob_some, cd_t, cd_f, cd_d, okO_setI, okA_setI, okL_setI, aLen_setI, hR_setI, hI_setI, Bool.true_and, Bool.and_true, Bool.and_self, Option.isNone_some, Option.isSome_some, Option.isNone_none, Option.isSome_none, okO_chI, okA_chI, okL_chI, aLen_chI, hR_chI, ↓reduceIte, not_true_eq_false, not_false_eq_true, eq_self, c10, WLr w3, ↓b5, WLw w3 hd, e4, X209_27, X209_28]
        exact L209e w4 le4.ne _ _ (d + 5) _
      · rw [hq]
        have gg := hs.at (by omega) hq
        have gL := gg.1
        have gn := gg.2.2.1
        have g0 := gg.2.1
        have ck : q.2.1 n = (4, 0) := (gg.2.2.2.1 n (by omega)).trans (if_pos rfl)
        have w3 : Wf rb dr jd h3 := w0.e s3.1.1
        obtain ⟨h4, e4, s4⟩ := s3.aim w0 (j := n) (by omega) (by omega) (by rw [ck]; show 4 = 4 ∨ 4 = 5; omega) (d + 7)
        obtain ⟨h', e, o⟩ := ih (i + 1) h4 q.1 (aimC q.2.1 n q.2.2) q.2.2 (by omega) s4 gL (by omega)
        refine ⟨h', fun j3 => ?_, o⟩
        have b5 := obR (WLr w3).2.2.2
        rw [st j3, X209_23]
        simp only [bI_some, bV_some, bR_some, bL_some, ob_some, cd_t, cd_f, cd_d, okO_setI, okA_setI, okL_setI, aLen_setI, hR_setI, hI_setI, Bool.true_and, Bool.and_true, Bool.and_self, Option.isNone_some, Option.isSome_some, Option.isNone_none, Option.isSome_none, okO_chI, okA_chI, okL_chI, aLen_chI, hR_chI, ↓reduceIte, not_true_eq_false, not_false_eq_true, eq_self, c10, WLr w3, ↓b5, WLw w3 hd, e4, X209_27, X209_28, nI_1]
        exact e _
    · rw [if_neg c1]
      refine ⟨h, fun j3 => ?_, Or.inr ⟨_, rfl, s⟩⟩
      have d1 : ¬ pkI t L p = 124 := fun z => c1 (q1.mp z)
      rw [X209_5]
      simp only [bI_some, bV_some, bR_some, bL_some, ob_some, cd_t, cd_f, cd_d, okO_setI, okA_setI, okL_setI, aLen_setI, hR_setI, hI_setI, Bool.true_and, Bool.and_true, Bool.and_self, Option.isNone_some, Option.isSome_some, Option.isNone_none, Option.isSome_none, okO_chI, okA_chI, okL_chI, aLen_chI, hR_chI, ↓reduceIte, not_true_eq_false, not_false_eq_true, eq_self, c10, g]
      rw [X209_8, pk]
      simp only [bI_some, bV_some, bR_some, bL_some, ob_some, cd_t, cd_f, cd_d, okO_setI, okA_setI, okL_setI, aLen_setI, hR_setI, hI_setI, Bool.true_and, Bool.and_true, Bool.and_self, Option.isNone_some, Option.isSome_some, Option.isNone_none, Option.isSome_none, okO_chI, okA_chI, okL_chI, aLen_chI, hR_chI, ↓reduceIte, not_true_eq_false, not_false_eq_true, eq_self, c10, WLr w, d1, X209_29]
theorem C209 {rb dr : Nat} {jd : Option Nat} {h0 : rz_H} (w0 : Wf rb dr jd h0) {N : Nat} {t : Nat → Nat} (T0 : Tq h0 N t) {L : Nat} (hL : L ≤ N) (h240 : L ≤ 240) {cs dep : Nat} {R : Nat → CC → Nat → RC} {B : Nat} (hs : Sp L true B R) {d : Nat} (hi : SC dr cs h0 L 210 (d + 8) dep R) : SC dr cs h0 L 209 (d + 9) dep (fun p c n => cbd (R p c n) (jlp t L R 124 4 240)) := by
  intro h p c n s hp hroom
  have w : Wf rb dr jd h := w0.e s.1.1
  obtain ⟨h1, e1, o1⟩ := hi h p c n s hp hroom
  have st : cW (d + 9) 209 [rz_r (some 81), rz_i (nI dep)] h = rW (d + 8) 209 (5, (0, 0), [some (rz_r (some 81)), some (rz_i (nI dep)), some (rz_i (nI 0)), none], [], h1) := by
    rw [X209, e1]
    simp only [bI_some, bV_some, bR_some, bL_some, ob_some, cd_t, cd_f, cd_d, okO_setI, okA_setI, okL_setI, aLen_setI, hR_setI, hI_setI, Bool.true_and, Bool.and_true, Bool.and_self, Option.isNone_some, Option.isSome_some, Option.isNone_none, Option.isSome_none, okO_chI, okA_chI, okL_chI, aLen_chI, hR_chI, ↓reduceIte, not_true_eq_false, not_false_eq_true, eq_self, c10, WLr w, X209_3]
    rfl
  rw [st]
  show ∃ h', _ ∧ Oz dr cs h0 h' L (cbd (R p c n) (jlp t L R 124 4 240))
  rcases o1 with ⟨e, he, le⟩ | ⟨q, hq, s1⟩
  · rw [he]
    have w1 : Wf rb dr jd h1 := w0.e le.1.1
    exact ⟨h1, L209e w1 le.ne _ _ (d + 5) _, Or.inl ⟨e, rfl, le⟩⟩
  · rw [hq]
    have gg := hs.at hp hq
    have gn := gg.2.2.1
    obtain ⟨h', e, o⟩ := L209 w0 T0 hL h240 hs hi 240 0 h1 q.1 q.2.1 q.2.2 (by omega) s1 gg.1 (by omega)
    exact ⟨h', e _, o⟩
theorem TG {rb dr : Nat} {jd : Option Nat} {h0 : rz_H} (w0 : Wf rb dr jd h0) {N : Nat} {t : Nat → Nat} (T0 : Tq h0 N t) {L : Nat} (hL : L ≤ N) (h240 : L ≤ 240) (cs : Nat) : ∀ g, g ≤ 6 → ∀ d, SC dr cs h0 L 211 (d + 3 * g + 7) (6 - g) (tsG t L g)
  | 0, _, d => C211 w0 T0 hL h240 (op := false) ⟨fun z => absurd z (by simp), fun z => absurd z (by omega)⟩ (by omega) (B1 := 0) (B2 := 0) (fun z => absurd z (by simp)) (fun z => absurd z (by simp)) (sum_sp (t := t) (fcG_sp t L 0)) (fun z => absurd z (by simp)) (fun z => absurd z (by simp)) (CG w0 T0 hL h240 cs 0 (by omega) d)
  | g + 1, h6, d => by
    have sp := tsG_sp t L g
    have ih := TG w0 T0 hL h240 cs g (by omega)
    have i2 : SC dr cs h0 L 209 (d + 3 * g + 9) (6 - g) (anyT t L (tsG t L g)) := C209 w0 T0 hL h240 (all_sp (t := t) sp) (C210 w0 T0 hL h240 sp (ih d))
    refine C211 w0 T0 hL h240 (op := true) (d := d + 3 * (g + 1)) ⟨fun _ => by omega, fun _ => rfl⟩ (by omega) (fun _ => sp) (fun _ => any_sp (t := t) sp) (sum_sp (t := t) (fcG_sp t L (g + 1))) (fun _ => ?_) (fun _ => ?_) (CG w0 T0 hL h240 cs (g + 1) h6 d)
    · rw [show 6 - (g + 1) + 1 = 6 - g by omega, show d + 3 * (g + 1) + 6 = d + 2 + 3 * g + 7 by omega]
      exact ih (d + 2)
    · rw [show 6 - (g + 1) + 1 = 6 - g by omega, show d + 3 * (g + 1) + 6 = d + 3 * g + 9 by omega]
      exact i2
theorem AG {rb dr : Nat} {jd : Option Nat} {h0 : rz_H} (w0 : Wf rb dr jd h0) {N : Nat} {t : Nat → Nat} (T0 : Tq h0 N t) {L : Nat} (hL : L ≤ N) (h240 : L ≤ 240) (cs d : Nat) : SC dr cs h0 L 209 (d + 24) 1 (anyT t L (tsG t L 5)) := C209 w0 T0 hL h240 (all_sp (t := t) (tsG_sp t L 5)) (C210 w0 T0 hL h240 (tsG_sp t L 5) (TG w0 T0 hL h240 cs 5 (by omega) d))
theorem SG {rb dr : Nat} {jd : Option Nat} {h0 : rz_H} (w0 : Wf rb dr jd h0) {N : Nat} {t : Nat → Nat} (T0 : Tq h0 N t) {L : Nat} (hL : L ≤ N) (h240 : L ≤ 240) (cs d : Nat) : SC dr cs h0 L 213 (d + 24) 0 (sumT t L (fcG t L 6)) := CG w0 T0 hL h240 cs 6 (by omega) d
