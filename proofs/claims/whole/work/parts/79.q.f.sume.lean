/-! the law's text: the class's reader, sums -/
def sumR (t : Nat → Nat) (L : Nat) (R : Nat → CC → Nat → RC) (p : Nat) (c : CC) (n : Nat) : RC := cbd (R p c n) (blp t L R addT 240)
theorem L213 {rb dr : Nat} {jd : Option Nat} {h0 : rz_H} (w0 : Wf rb dr jd h0) {N : Nat} {t : Nat → Nat} (T0 : Tq h0 N t) {L : Nat} (hL : L ≤ N) (h240 : L ≤ 240) {cs dep : Nat} {R : Nat → CC → Nat → RC} {B : Nat} (hs : Sp L false B R) {d : Nat} (hi : SC dr cs h0 L 214 (d + 5) dep R) : ∀ f i h p c n, i + f = 240 → Lz dr cs h0 h L p c n → p ≤ L → cs + n ≤ p → ∃ h', (∀ j3, rW (d + 5) 213 (5, (0, 0), [some (rz_r (some 81)), some (rz_i (nI dep)), some (rz_i (nI i)), j3], [], h) = some (rz_i 0, h')) ∧ Oz dr cs h0 h' L (blp t L R addT f p c n) := by
  intro f
  induction f with
  | zero =>
    intro i h p c n hf s hp hr
    refine ⟨h, fun j3 => ?_, Or.inr ⟨_, rfl, s⟩⟩
    have g : (240 : Int32) ≤ nI i := nI_le (a := 240) (by omega) (by omega)
    rw [X213_5]
    simp only [bI_some, bV_some, bR_some, bL_some, ob_some, cd_t, cd_f, cd_d, okO_setI, okA_setI, okL_setI, aLen_setI, hR_setI, hI_setI, Bool.true_and, Bool.and_true, Bool.and_self, Option.isNone_some, Option.isSome_some, Option.isNone_none, Option.isSome_none, okO_chI, okA_chI, okL_chI, aLen_chI, hR_chI, ↓reduceIte, not_true_eq_false, not_false_eq_true, eq_self, c10, g, X213_32]
  | succ f ih =>
    intro i h p c n hf s hp hroom
    have hd := isW_dr w0
    have w : Wf rb dr jd h := w0.e s.1.1
    have T := T0.fe hd s.1.fe
    have hN := T.1.1
    have r := s.2.1
    have hb : p < L → t p < 256 := fun q => (T.1.2 p (by omega)).1
    have pk := fun d => R227 w isR81 T hL r.1 r.2.1 (by omega) r.2.2 d
    have g : ¬ (240 : Int32) ≤ nI i := nI_ge (b := 240) (by omega) (by omega)
    have q1 : pkI t L p = 43 ↔ p < L ∧ t p = 43 := pkk_eq (m := 43) hb (by omega)
    have q2 : pkI t L p = 45 ↔ p < L ∧ t p = 45 := pkk_eq (m := 45) hb (by omega)
    have lk : addT (t p) = true ↔ (t p = 43 ∨ t p = 45) := ⟨of_decide_eq_true, decide_eq_true⟩
    unfold blp
    by_cases c1 : p < L ∧ addT (t p) = true
    · rw [if_pos c1]
      have st : ∀ j3, rW (d + 5) 213 (5, (0, 0), [some (rz_r (some 81)), some (rz_i (nI dep)), some (rz_i (nI i)), j3], [], h) = rW (d + 5) 213 (16, (0, 0), [some (rz_r (some 81)), some (rz_i (nI dep)), some (rz_i (nI i)), none], [], h) := fun j3 => by
        rw [X213_5]
        simp only [bI_some, bV_some, bR_some, bL_some, ob_some, cd_t, cd_f, cd_d, okO_setI, okA_setI, okL_setI, aLen_setI, hR_setI, hI_setI, Bool.true_and, Bool.and_true, Bool.and_self, Option.isNone_some, Option.isSome_some, Option.isNone_none, Option.isSome_none, okO_chI, okA_chI, okL_chI, aLen_chI, hR_chI, ↓reduceIte, not_true_eq_false, not_false_eq_true, eq_self, c10, g]
        rw [X213_8, pk]
        by_cases d1 : pkI t L p = 43
        · simp only [bI_some, bV_some, bR_some, bL_some, ob_some, cd_t, cd_f, cd_d, okO_setI, okA_setI, okL_setI, aLen_setI, hR_setI, hI_setI, Bool.true_and, Bool.and_true, Bool.and_self, Option.isNone_some, Option.isSome_some, Option.isNone_none, Option.isSome_none, okO_chI, okA_chI, okL_chI, aLen_chI, hR_chI, ↓reduceIte, not_true_eq_false, not_false_eq_true, eq_self, c10, WLr w, d1]
        · simp only [bI_some, bV_some, bR_some, bL_some, ob_some, cd_t, cd_f, cd_d, okO_setI, okA_setI, okL_setI, aLen_setI, hR_setI, hI_setI, Bool.true_and, Bool.and_true, Bool.and_self, Option.isNone_some, Option.isSome_some, Option.isNone_none, Option.isSome_none, okO_chI, okA_chI, okL_chI, aLen_chI, hR_chI, ↓reduceIte, not_true_eq_false, not_false_eq_true, eq_self, c10, WLr w, d1]
          rw [X213_12, pk]
          have d2 : pkI t L p = 45 := by
            rcases lk.mp c1.2 with z | z
            · exact absurd (q1.mpr ⟨c1.1, z⟩) d1
            · exact q2.mpr ⟨c1.1, z⟩
          simp only [bI_some, bV_some, bR_some, bL_some, ob_some, cd_t, cd_f, cd_d, okO_setI, okA_setI, okL_setI, aLen_setI, hR_setI, hI_setI, Bool.true_and, Bool.and_true, Bool.and_self, Option.isNone_some, Option.isSome_some, Option.isNone_none, Option.isSome_none, okO_chI, okA_chI, okL_chI, aLen_chI, hR_chI, ↓reduceIte, not_true_eq_false, not_false_eq_true, eq_self, c10, WLr w, d2]
      let h1 := setI h 81 2 (nI (p + 1))
      have w1 : Wf rb dr jd h1 := w
      have s1 : Lz dr cs h0 h1 L (p + 1) c n := s.go hd (p + 1)
      obtain ⟨h2, e2, o2⟩ := hi h1 (p + 1) c n s1 (by omega) (by omega)
      have st2 : ∀ j3, rW (d + 5) 213 (5, (0, 0), [some (rz_r (some 81)), some (rz_i (nI dep)), some (rz_i (nI i)), j3], [], h) = rW (d + 5) 213 (24, (0, 0), [some (rz_r (some 81)), some (rz_i (nI dep)), some (rz_i (nI i)), some (rz_i (nI (t p)))], [], h2) := fun j3 => by
        rw [st j3, X213_16, pk, pkk_in c1.1]
        simp only [bI_some, bV_some, bR_some, bL_some, ob_some, cd_t, cd_f, cd_d, okO_setI, okA_setI, okL_setI, aLen_setI, hR_setI, hI_setI, Bool.true_and, Bool.and_true, Bool.and_self, Option.isNone_some, Option.isSome_some, Option.isNone_none, Option.isSome_none, okO_chI, okA_chI, okL_chI, aLen_chI, hR_chI, ↓reduceIte, not_true_eq_false, not_false_eq_true, eq_self, c10, WLr w]
        rw [X213_19]
        simp only [bI_some, bV_some, bR_some, bL_some, ob_some, cd_t, cd_f, cd_d, okO_setI, okA_setI, okL_setI, aLen_setI, hR_setI, hI_setI, Bool.true_and, Bool.and_true, Bool.and_self, Option.isNone_some, Option.isSome_some, Option.isNone_none, Option.isSome_none, okO_chI, okA_chI, okL_chI, aLen_chI, hR_chI, ↓reduceIte, not_true_eq_false, not_false_eq_true, eq_self, c10, WLr w, R229 w isR81 r.2.1]
        rw [show setI h 81 2 (nI (p + 1)) = h1 from rfl, X213_21, e2]
        simp only [bV_some, cd_t, (WLr w1).1]
      rcases o2 with ⟨e, he, le⟩ | ⟨q, hq, s2⟩
      · rw [he]
        have w2 : Wf rb dr jd h2 := w0.e le.1.1
        obtain ⟨x5, h3, e3, le3⟩ := le.add w0 (nI (t p)) 0 (d + 4)
        have w3 : Wf rb dr jd h3 := w0.e le3.1.1
        refine ⟨h3, fun j3 => ?_, Or.inl ⟨e, rfl, le3⟩⟩
        have b5 := obR (WLr w2).2.2.2
        rw [st2 j3, X213_24]
        simp only [bI_some, bV_some, bR_some, bL_some, ob_some, cd_t, cd_f, cd_d, okO_setI, okA_setI, okL_setI, aLen_setI, hR_setI, hI_setI, Bool.true_and, Bool.and_true, Bool.and_self, Option.isNone_some, Option.isSome_some, Option.isNone_none, Option.isSome_none, okO_chI, okA_chI, okL_chI, aLen_chI, hR_chI, ↓reduceIte, not_true_eq_false, not_false_eq_true, eq_self, c10, WLr w2, ↓b5, WLw w2 hd, e3, X213_31]
        exact L213e w3 le3.ne _ _ (d + 2) _
      · rw [hq]
        have gg := hs.at (by omega) hq
        have gL := gg.1
        have gn := gg.2.2.1
        have w2 : Wf rb dr jd h2 := w0.e s2.1.1
        obtain ⟨h3, e3, s3⟩ := s2.add w0 (by omega) (t p, 0) (d + 4)
        rw [vl0] at e3
        have e3 : cW (d + 5) 197 [rz_r (some dr), rz_i (nI (t p)), rz_i 0] h2 = some (rz_i (nI (cs + q.2.2)), h3) := e3
        obtain ⟨h', e, o⟩ := ih (i + 1) h3 q.1 (psh q.2.1 q.2.2 (t p, 0)) (q.2.2 + 1) (by omega) s3 gL (by omega)
        refine ⟨h', fun j3 => ?_, o⟩
        have b5 := obR (WLr w2).2.2.2
        rw [st2 j3, X213_24]
        simp only [bI_some, bV_some, bR_some, bL_some, ob_some, cd_t, cd_f, cd_d, okO_setI, okA_setI, okL_setI, aLen_setI, hR_setI, hI_setI, Bool.true_and, Bool.and_true, Bool.and_self, Option.isNone_some, Option.isSome_some, Option.isNone_none, Option.isSome_none, okO_chI, okA_chI, okL_chI, aLen_chI, hR_chI, ↓reduceIte, not_true_eq_false, not_false_eq_true, eq_self, c10, WLr w2, ↓b5, WLw w2 hd, e3, X213_31, nI_1]
        exact e _
    · rw [if_neg c1]
      refine ⟨h, fun j3 => ?_, Or.inr ⟨_, rfl, s⟩⟩
      have d1 : ¬ pkI t L p = 43 := fun z => c1 ⟨(q1.mp z).1, lk.mpr (Or.inl (q1.mp z).2)⟩
      have d2 : ¬ pkI t L p = 45 := fun z => c1 ⟨(q2.mp z).1, lk.mpr (Or.inr (q2.mp z).2)⟩
      rw [X213_5]
      simp only [bI_some, bV_some, bR_some, bL_some, ob_some, cd_t, cd_f, cd_d, okO_setI, okA_setI, okL_setI, aLen_setI, hR_setI, hI_setI, Bool.true_and, Bool.and_true, Bool.and_self, Option.isNone_some, Option.isSome_some, Option.isNone_none, Option.isSome_none, okO_chI, okA_chI, okL_chI, aLen_chI, hR_chI, ↓reduceIte, not_true_eq_false, not_false_eq_true, eq_self, c10, g]
      rw [X213_8, pk]
      simp only [bI_some, bV_some, bR_some, bL_some, ob_some, cd_t, cd_f, cd_d, okO_setI, okA_setI, okL_setI, aLen_setI, hR_setI, hI_setI, Bool.true_and, Bool.and_true, Bool.and_self, Option.isNone_some, Option.isSome_some, Option.isNone_none, Option.isSome_none, okO_chI, okA_chI, okL_chI, aLen_chI, hR_chI, ↓reduceIte, not_true_eq_false, not_false_eq_true, eq_self, c10, WLr w, d1]
      rw [X213_12, pk]
      simp only [bI_some, bV_some, bR_some, bL_some, ob_some, cd_t, cd_f, cd_d, okO_setI, okA_setI, okL_setI, aLen_setI, hR_setI, hI_setI, Bool.true_and, Bool.and_true, Bool.and_self, Option.isNone_some, Option.isSome_some, Option.isNone_none, Option.isSome_none, okO_chI, okA_chI, okL_chI, aLen_chI, hR_chI, ↓reduceIte, not_true_eq_false, not_false_eq_true, eq_self, c10, WLr w, d2, X213_32]
theorem C213 {rb dr : Nat} {jd : Option Nat} {h0 : rz_H} (w0 : Wf rb dr jd h0) {N : Nat} {t : Nat → Nat} (T0 : Tq h0 N t) {L : Nat} (hL : L ≤ N) (h240 : L ≤ 240) {cs dep : Nat} {R : Nat → CC → Nat → RC} {B : Nat} (hs : Sp L false B R) {d : Nat} (hi : SC dr cs h0 L 214 (d + 5) dep R) : SC dr cs h0 L 213 (d + 6) dep (sumR t L R) := by
  intro h p c n s hp hroom
  have w : Wf rb dr jd h := w0.e s.1.1
  obtain ⟨h1, e1, o1⟩ := hi h p c n s hp hroom
  have st : cW (d + 6) 213 [rz_r (some 81), rz_i (nI dep)] h = rW (d + 5) 213 (5, (0, 0), [some (rz_r (some 81)), some (rz_i (nI dep)), some (rz_i (nI 0)), none], [], h1) := by
    rw [X213, e1]
    simp only [bI_some, bV_some, bR_some, bL_some, ob_some, cd_t, cd_f, cd_d, okO_setI, okA_setI, okL_setI, aLen_setI, hR_setI, hI_setI, Bool.true_and, Bool.and_true, Bool.and_self, Option.isNone_some, Option.isSome_some, Option.isNone_none, Option.isSome_none, okO_chI, okA_chI, okL_chI, aLen_chI, hR_chI, ↓reduceIte, not_true_eq_false, not_false_eq_true, eq_self, c10, WLr w, X213_3]
    rfl
  rw [st]
  show ∃ h', _ ∧ Oz dr cs h0 h' L (cbd (R p c n) (blp t L R addT 240))
  rcases o1 with ⟨e, he, le⟩ | ⟨q, hq, s1⟩
  · rw [he]
    have w1 : Wf rb dr jd h1 := w0.e le.1.1
    exact ⟨h1, L213e w1 le.ne _ _ (d + 2) _, Or.inl ⟨e, rfl, le⟩⟩
  · rw [hq]
    have gg := hs.at hp hq
    have gn := gg.2.2.1
    obtain ⟨h', e, o⟩ := L213 w0 T0 hL h240 hs hi 240 0 h1 q.1 q.2.1 q.2.2 (by omega) s1 gg.1 (by omega)
    exact ⟨h', e _, o⟩
theorem CG {rb dr : Nat} {jd : Option Nat} {h0 : rz_H} (w0 : Wf rb dr jd h0) {N : Nat} {t : Nat → Nat} (T0 : Tq h0 N t) {L : Nat} (hL : L ≤ N) (h240 : L ≤ 240) (cs : Nat) : ∀ g, g ≤ 6 → ∀ d, SC dr cs h0 L 213 (d + 3 * g + 6) (6 - g) (sumT t L (fcG t L g))
  | 0, _, d => by
    have a : SC dr cs h0 L 215 (d + 4) 6 (fcG t L 0) := C215 w0 T0 hL h240 (op := false) ⟨fun z => absurd z (by simp), fun z => absurd z (by omega)⟩ (by omega) (B := 0) (fun z => absurd z (by simp)) (fun z => absurd z (by simp))
    exact C213 w0 T0 hL h240 (prd_sp (t := t) (fcG_sp t L 0)) (C214 w0 T0 hL h240 (fcG_sp t L 0) a)
  | g + 1, h6, d => by
    have ih := CG w0 T0 hL h240 cs g (by omega) d
    have a : SC dr cs h0 L 215 (d + 3 * (g + 1) + 4) (6 - (g + 1)) (fcG t L (g + 1)) := C215 w0 T0 hL h240 (op := true) ⟨fun _ => by omega, fun _ => rfl⟩ (by omega) (fun _ => sum_sp (t := t) (fcG_sp t L g)) (fun _ => by
      rw [show 6 - (g + 1) + 1 = 6 - g by omega, show d + 3 * (g + 1) + 3 = d + 3 * g + 6 by omega]
      exact ih)
    exact C213 w0 T0 hL h240 (prd_sp (t := t) (fcG_sp t L (g + 1))) (C214 w0 T0 hL h240 (fcG_sp t L (g + 1)) a)
