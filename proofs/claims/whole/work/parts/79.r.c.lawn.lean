/-! the law's text: the model's law -/
theorem K70 {rb dr : Nat} {jd : Option Nat} {h : rz_H} (w : Wf rb dr jd h) {N : Nat} {t : Nat → Nat} (T : Tm h N t) (e4 : hI h 109 4 = nI N) {n : Nat} (h0 : 0 < n) (hn : n ≤ 240) (hN : n ≤ N) (a : Nat → RU) : ∃ h', h'.2 = h.2 ∧ hI h' 109 4 = 0 ∧ ((∃ e, lawT t n 17 0 0 a = Sum.inl e ∧ cW 100 70 [rz_r (some 109), rz_i (nI n)] h = some (rz_i (erI e.1 e.2), h') ∧ ∀ b i, ¬ (b = 109 ∧ 4 ≤ i ∧ i ≤ 12) → ¬ (114 ≤ b ∧ b ≤ 119) → hI h' b i = hI h b i) ∨ (∃ q, lawT t n 17 0 0 a = Sum.inr q ∧ cW 100 70 [rz_r (some 109), rz_i (nI n)] h = some (rz_i (nI q.1), h') ∧ 0 < q.1 ∧ q.1 ≤ 16 ∧ hI h' 109 13 = nI q.1 ∧ bMl q.2 q.1 ≤ n ∧ (∀ i, i < q.1 → RuM 121 h' (bMl q.2 i) i (q.2 i) ∧ CoM 120 h' (bMl q.2 i) (q.2 i)) ∧ ∀ b i, ¬ (b = 109 ∧ 4 ≤ i ∧ i ≤ 13) → ¬ (114 ≤ b ∧ b ≤ 124) → hI h' b i = hI h b i)) := by
  have hNN := T.1
  have hb : ∀ i, i < n → t i < 256 := fun i hi => (T.2 i (by omega)).1
  let ha := setI (setI (setI (setI h 109 5 0) 109 6 (nI n)) 109 10 0) 109 12 0
  have wa : Wf rb dr jd ha := w
  have oa : ∀ b i, ¬ (b = 109 ∧ (i = 5 ∨ i = 6 ∨ i = 10 ∨ i = 12)) → hI ha b i = hI h b i := fun b i n1 => by
    show hI (setI (setI (setI (setI h 109 5 0) 109 6 (nI n)) 109 10 0) 109 12 0) b i = _
    rw [hI_setI, if_neg (by omega), hI_setI, if_neg (by omega), hI_setI, if_neg (by omega), hI_setI, if_neg (by omega)]
  have ma : MT ha N t n 0 := ⟨⟨T.1, fun i hi => ⟨(T.2 i hi).1, by rw [oa 113 i (by omega)]; exact (T.2 i hi).2⟩⟩, hN, rfl, rfl, by omega⟩
  have a10 : hI ha 109 10 = nI 0 := rfl
  have a12 : hI ha 109 12 = nI 0 := rfl
  have sa : LgM ha ha N t n 0 0 a := ⟨⟨rfl, fun _ _ _ _ => rfl⟩, ma, a10, a12, Nat.le_refl _, by omega, fun q hq => absurd hq (by omega)⟩
  obtain ⟨h1, o1⟩ := K68 wa hb hn ma a10 a12 (by omega) (by omega) (by omega) 91
  have fin : ∃ x1 b2 h2, cW 99 68 [rz_r (some 109)] ha = some (rz_i x1, h1) ∧ rW 99 70 (17, (0, 0), [some (rz_r (some 109)), some (rz_i (nI n)), some (rz_i x1), none], [], h1) = rW 99 70 (36, (0, 0), [some (rz_r (some 109)), none, some (rz_i b2), none], [], h2) ∧ MlO ha h2 N t n b2 (lawT t n 17 0 0 a) := by
    show ∃ x1 b2 h2, _ ∧ _ ∧ MlO ha h2 N t n b2 (match rulT t n 0 0 with
      | .inl e => Sum.inl e
      | .inr q => aftL t n (lawT t n 16) q.1 (0 + 1) (upr a 0 q.2))
    rcases o1 with ⟨e, he, o2, v7, o4⟩ | ⟨q, hq, n16, o2, o3, o4, o5, o6, o7, o8, o9, o10⟩
    · rw [he]
      exact ⟨0, 0, h1, o2, T17e h1 _ _ _, Or.inl ⟨e, rfl, rfl, v7, o4.fl (by omega)⟩⟩
    · rw [hq]
      obtain ⟨b, h', e, o⟩ := T17 wa hb hn 91 16 h1 q.1 (0 + 1) (upr a 0 q.2) (by omega) (by omega) (by omega) (sa.nx o3 o4 o5 o6 o7 o8 o9 o10)
      exact ⟨1, b, h', o2, e _ _, o⟩
  obtain ⟨x1, b2, h2, e1, e2, o2⟩ := fin
  have F2 : FLm ha h2 := by
    rcases o2 with ⟨e, -, -, -, f⟩ | ⟨q, -, -, -, -, p, f⟩
    · exact f
    · exact f.1
  have w2 : Wf rb dr jd h2 := wa.e F2.1
  let h3 := setI h2 109 4 0
  have w3 : Wf rb dr jd h3 := w2
  have o3 : ∀ b i, ¬ (b = 109 ∧ i = 4) → hI h3 b i = hI h2 b i := fun b i z => by
    show hI (setI h2 109 4 0) b i = _
    rw [hI_setI, if_neg z]
  have v34 : hI h3 109 4 = 0 := by
    show hI (setI h2 109 4 0) 109 4 = 0
    rw [hI_setI, if_pos ⟨rfl, rfl⟩]
  have ff : ∀ b i, ¬ (b = 109 ∧ 4 ≤ i ∧ i ≤ 12) → ¬ (114 ≤ b ∧ b ≤ 119) → hI h3 b i = hI h b i := fun b i n1 n2 => by
    rw [o3 b i (by omega), F2.2 b i (by omega) n2, oa b i (by omega)]
  have n240 : (1 : Int32) ≤ nI n ∧ nI n ≤ 240 := ⟨nI_le (a := 1) (by omega) (by omega), nI_le (b := 240) (by omega) (by omega)⟩
  have c1 : nI n ≤ nI N := nI_le hN (by omega)
  have e69 : ∀ d, cW (d + 1) 69 [rz_r (some 109), rz_i (nI n)] h = some (rz_i 0, ha) := fun d => by
    rw [E69]
    simp only [bI_some, bV_some, bR_some, bL_some, ob_some, cd_t, cd_f, cd_d, okO_setI, okA_setI, okL_setI, aLen_setI, hR_setI, hI_setI, Bool.true_and, Bool.and_true, Bool.and_self, Option.isNone_some, Option.isSome_some, Option.isNone_none, Option.isSome_none, okO_chI, okA_chI, okL_chI, aLen_chI, hR_chI, ↓reduceIte, not_true_eq_false, not_false_eq_true, eq_self, c10, WMd w]
    rfl
  have st : cW 100 70 [rz_r (some 109), rz_i (nI n)] h = rW 99 70 (39, (0, 0), [some (rz_r (some 109)), none, some (rz_i b2), none], [], h3) := by
    rw [X70]
    simp only [bI_some, bV_some, bR_some, bL_some, ob_some, cd_t, cd_f, cd_d, okO_setI, okA_setI, okL_setI, aLen_setI, hR_setI, hI_setI, Bool.true_and, Bool.and_true, Bool.and_self, Option.isNone_some, Option.isSome_some, Option.isNone_none, Option.isSome_none, okO_chI, okA_chI, okL_chI, aLen_chI, hR_chI, ↓reduceIte, not_true_eq_false, not_false_eq_true, eq_self, c10, S33, if_pos n240]
    rw [X70_5, e4]
    simp only [bI_some, bV_some, bR_some, bL_some, ob_some, cd_t, cd_f, cd_d, okO_setI, okA_setI, okL_setI, aLen_setI, hR_setI, hI_setI, Bool.true_and, Bool.and_true, Bool.and_self, Option.isNone_some, Option.isSome_some, Option.isNone_none, Option.isSome_none, okO_chI, okA_chI, okL_chI, aLen_chI, hR_chI, ↓reduceIte, not_true_eq_false, not_false_eq_true, eq_self, c10, WMd w, c1]
    rw [X70_11, e69]
    simp only [bV_some, cd_t, (WMd w).1]
    rw [X70_14, e1]
    simp only [bI_some, cd_t, (WMd wa).1]
    rw [e2, X70_36]
    simp only [cd_t, (WMd w2).1]
    rfl
  rcases o2 with ⟨e, he, rfl, v7, -⟩ | ⟨q, hq, rfl, q0, q16, p, g⟩
  · refine ⟨h3, F2.1, v34, Or.inl ⟨e, he, ?_, ff⟩⟩
    have v : hI h3 109 7 = erI e.1 e.2 := (o3 109 7 (by omega)).trans v7
    rw [st, X70_39]
    simp only [bI_some, bV_some, bR_some, bL_some, ob_some, cd_t, cd_f, cd_d, okO_setI, okA_setI, okL_setI, aLen_setI, hR_setI, hI_setI, Bool.true_and, Bool.and_true, Bool.and_self, Option.isNone_some, Option.isSome_some, Option.isNone_none, Option.isSome_none, okO_chI, okA_chI, okL_chI, aLen_chI, hR_chI, ↓reduceIte, not_true_eq_false, not_false_eq_true, eq_self, c10]
    rw [X70_41, v]
    simp only [cd_t, (WMd w3).1]
  · obtain ⟨-, m2, g10, g12, g1, g2, g3⟩ := g
    have r12 : hI h3 109 12 = nI q.1 := (o3 109 12 (by omega)).trans g12
    let h4 := setI h3 109 13 (nI q.1)
    have w4 : Wf rb dr jd h4 := w3
    have o4 : ∀ b i, ¬ (b = 109 ∧ (i = 4 ∨ i = 13)) → hI h4 b i = hI h2 b i := fun b i z => by
      show hI (setI h3 109 13 _) b i = _
      rw [hI_setI, if_neg (by omega)]
      exact o3 b i (by omega)
    obtain ⟨h5, e5, b5, p5, c5⟩ := T50 w4 ((o4 109 10 (by omega)).trans g10) (by omega) 99 (bMl q.2 q.1) 0 h4 (by omega) rfl (fun _ _ _ => rfl) (fun j hj => absurd hj (by omega))
    have w5 : Wf rb dr jd h5 := w4.e b5
    obtain ⟨h6, e6, b6, p6, c6⟩ := T66 w5 ((p5 109 12 (by omega)).trans ((o4 109 12 (by omega)).trans g12)) q16 99 q.1 0 h5 (by omega) rfl (fun _ _ _ => rfl) (fun j hj => absurd hj (by omega))
    have v13 : hI h6 109 13 = nI q.1 := (p6 109 13 (by omega)).trans ((p5 109 13 (by omega)).trans (by show hI (setI h3 109 13 _) 109 13 = _; rw [hI_setI, if_pos ⟨rfl, rfl⟩]))
    have v4 : hI h6 109 4 = 0 := (p6 109 4 (by omega)).trans ((p5 109 4 (by omega)).trans (by show hI (setI h3 109 13 _) 109 4 = _; rw [hI_setI, if_neg (by omega)]; exact v34))
    refine ⟨h6, b6.trans (b5.trans F2.1), v4, Or.inr ⟨q, hq, ?_, q0, q16, v13, by omega, fun i hi => ?_, fun b i n1 n2 => ?_⟩⟩
    · have e5 : ∀ j1 j2, rW 99 70 (50, (0, 0), [some (rz_r (some 109)), j1, j2, some (rz_i 0)], [], h4) = rW 99 70 (66, (0, 0), [some (rz_r (some 109)), none, none, some (rz_i 0)], [], h5) := e5
      have e6 : ∀ j1 j2, rW 99 70 (66, (0, 0), [some (rz_r (some 109)), j1, j2, some (rz_i 0)], [], h5) = some (rz_i (nI q.1), h6) := e6
      rw [st, X70_39]
      simp only [bI_some, bV_some, bR_some, bL_some, ob_some, cd_t, cd_f, cd_d, okO_setI, okA_setI, okL_setI, aLen_setI, hR_setI, hI_setI, Bool.true_and, Bool.and_true, Bool.and_self, Option.isNone_some, Option.isSome_some, Option.isNone_none, Option.isSome_none, okO_chI, okA_chI, okL_chI, aLen_chI, hR_chI, ↓reduceIte, not_true_eq_false, not_false_eq_true, eq_self, c10]
      rw [X70_44, r12]
      simp only [cd_t, (WMd w3).1]
      rw [show setI h3 109 13 (nI q.1) = h4 from rfl, X70_48, e5, e6]
    · obtain ⟨⟨r1, r2, r3, r4⟩, d1, d2⟩ := g3 i hi
      obtain ⟨k1, k2, k3, k4⟩ := c6 i hi
      have mo := bMl_mono q.2 q.1 i hi
      have l5 : ∀ b, 116 ≤ b → b ≤ 119 → hI h5 b i = hI h2 b i := fun b x y => (p5 b i (by omega)).trans (o4 b i (by omega))
      have cod : ∀ j, j < bMl q.2 q.1 → hI h6 120 j = hI h2 114 j := fun j hj => (p6 120 j (by omega)).trans ((c5 j hj).trans (o4 114 j (by omega)))
      exact ⟨⟨k1.trans ((l5 116 (by omega) (by omega)).trans r1), k2.trans ((l5 117 (by omega) (by omega)).trans r2), k3.trans ((l5 118 (by omega) (by omega)).trans r3), k4.trans ((l5 119 (by omega) (by omega)).trans r4)⟩, fun j hj => (cod _ (by omega)).trans (d1 j hj), fun j hj => (cod _ (by omega)).trans (d2 j hj)⟩
    · rw [p6 b i (by omega), p5 b i (by omega), o4 b i (by omega), F2.2 b i (by omega) (by omega), oa b i (by omega)]
