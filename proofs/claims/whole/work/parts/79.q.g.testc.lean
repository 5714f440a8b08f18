/-! the law's text: the class's reader, tests -/
theorem G198 {rb dr : Nat} {jd : Option Nat} {h : rz_H} (w : Wf rb dr jd h) {j : Nat} (hj : j < 256) (d : Nat) : cW (d + 1) 198 [rz_r (some dr), rz_i (nI j)] h = some (rz_i 0, setI h (dr + 5) j (hI h dr 6)) := by
  have hd := isW_dr w
  have n0 : ¬ nI j < 0 := Int32.not_lt.mpr (nI_pos' (by omega))
  rw [E198]
  simp (disch := omega) only [↓cd_d, ↓irem_eq_mod, ↓ob_setI, ↓ob_chI, ↓ob_some, bI_some, bV_some, bR_some, bL_some, ob_some, cd_t, cd_f, okO_setI, okA_setI, okL_setI, aLen_setI, hR_setI, hI_setI, Bool.true_and, Bool.and_true, Bool.and_self, Option.isNone_some, Option.isSome_some, Option.isNone_none, Option.isSome_none, okO_chI, okA_chI, okL_chI, aLen_chI, hR_chI, ↓reduceIte, not_true_eq_false, not_false_eq_true, eq_self, c10, Nat.zero_add, nI_add, litA, litB, litM, nI_mul, nI_leI, nI_ltI, nI_eq, litLe, litLe2, litLt, litLt2, litEq, litEq2, in_nI, lit_in, nI_clamp, lit_cl, if_pos, if_neg, ↓WLwb w hd, WLw w hd, n0]
theorem A198 {rb dr : Nat} {jd : Option Nat} {h : rz_H} (w : Wf rb dr jd h) (x : Int32) (d : Nat) : ∃ h', cW (d + 1) 198 [rz_r (some dr), rz_i x] h = some (rz_i 0, h') ∧ h'.2 = h.2 ∧ ∀ b i, ¬ (dr ≤ b ∧ b ≤ dr + 5) → hI h' b i = hI h b i := by
  have hd := isW_dr w
  by_cases n0 : x < 0
  · refine ⟨h, ?_, rfl, fun _ _ _ => rfl⟩
    rw [E198]
    simp only [bI_some, bV_some, bR_some, bL_some, ob_some, cd_t, cd_f, cd_d, okO_setI, okA_setI, okL_setI, aLen_setI, hR_setI, hI_setI, Bool.true_and, Bool.and_true, Bool.and_self, Option.isNone_some, Option.isSome_some, Option.isNone_none, Option.isSome_none, okO_chI, okA_chI, okL_chI, aLen_chI, hR_chI, ↓reduceIte, not_true_eq_false, not_false_eq_true, eq_self, c10, if_pos n0]
  · obtain ⟨m, hm, rfl⟩ := nI_of n0
    by_cases c : m < 256
    · exact ⟨_, G198 w c d, rfl, fun b i n => by rw [hI_setI, if_neg (by omega)]⟩
    · refine ⟨h, ?_, rfl, fun _ _ _ => rfl⟩
      have g : (256 : Int32) ≤ nI m := nI_le (a := 256) (by omega) hm
      rw [E198]
      simp only [bI_some, bV_some, bR_some, bL_some, ob_some, cd_t, cd_f, cd_d, okO_setI, okA_setI, okL_setI, aLen_setI, hR_setI, hI_setI, Bool.true_and, Bool.and_true, Bool.and_self, Option.isNone_some, Option.isSome_some, Option.isNone_none, Option.isSome_none, okO_chI, okA_chI, okL_chI, aLen_chI, hR_chI, ↓reduceIte, not_true_eq_false, not_false_eq_true, eq_self, c10, ↓WLwb w hd, WLw w hd, if_neg n0, if_pos g]
theorem Le.aim {rb dr : Nat} {jd : Option Nat} {h0 : rz_H} (w0 : Wf rb dr jd h0) {h : rz_H} {e : Nat × Nat} (s : Le dr h0 h e) (x : Int32) (d : Nat) : ∃ h', cW (d + 1) 198 [rz_r (some dr), rz_i x] h = some (rz_i 0, h') ∧ Le dr h0 h' e := by
  have hd := isW_n (isW_dr w0)
  have w : Wf rb dr jd h := w0.e s.1.1
  obtain ⟨h', e1, q1, q2⟩ := A198 w x d
  exact ⟨h', e1, s.1.tr ⟨q1, fun b i n1 n2 => q2 b i n2⟩, ⟨(q2 81 3 (by omega)).trans s.2.1.1, (q2 81 4 (by omega)).trans s.2.1.2⟩, s.2.2⟩
theorem Lz.aim {rb dr : Nat} {jd : Option Nat} {h0 : rz_H} (w0 : Wf rb dr jd h0) {cs : Nat} {h : rz_H} {L p : Nat} {c : CC} {n : Nat} (s : Lz dr cs h0 h L p c n) {j : Nat} (hj : j < n) (hn : cs + n < 256) (hk : (c j).1 = 4 ∨ (c j).1 = 5) (d : Nat) : ∃ h', cW (d + 1) 198 [rz_r (some dr), rz_i (nI (cs + j))] h = some (rz_i 0, h') ∧ Lz dr cs h0 h' L p (aimC c j n) n := by
  have hd := isW_n (isW_dr w0)
  have w : Wf rb dr jd h := w0.e s.1.1
  refine ⟨_, G198 w (by omega) d, ⟨s.1.1, fun b i n1 n2 n3 => by rw [hI_setI, if_neg (by omega)]; exact s.1.2 b i n1 n2 n3⟩, ⟨by rw [hI_setI, if_neg (by omega)]; exact s.2.1.1, by rw [hI_setI, if_neg (by omega)]; exact s.2.1.2.1, by rw [hI_setI, if_neg (by omega)]; exact s.2.1.2.2⟩, by rw [hI_setI, if_neg (by omega)]; exact s.2.2.1, fun i hi => ?_⟩
  show _ = nI (if i = j then ((c j).1, n) else c i).1 ∧ _ = nI (vlC cs (if i = j then ((c j).1, n) else c i))
  by_cases ei : i = j
  · subst ei
    rw [if_pos rfl]
    refine ⟨by rw [hI_setI, if_neg (by omega)]; exact (s.2.2.2 i hi).1, ?_⟩
    rw [hI_setI, if_pos ⟨rfl, rfl⟩, s.2.2.1]
    have : vlC cs ((c i).1, n) = cs + n := if_pos ⟨hk, by show 0 < n; omega⟩
    rw [this]
  · rw [if_neg ei]
    obtain ⟨a1, a2⟩ := s.2.2.2 i hi
    exact ⟨by rw [hI_setI, if_neg (by omega)]; exact a1, by rw [hI_setI, if_neg (by omega)]; exact a2⟩
theorem C212e {rb dr : Nat} {jd : Option Nat} {h : rz_H} (w : Wf rb dr jd h) (e3 : ¬ hI h 81 3 = 0) (d : Nat) : cW (d + 3) 212 [rz_r (some 81)] h = some (rz_i (-1), h) := by
  rw [X212]
  simp only [bI_some, bV_some, bR_some, bL_some, ob_some, cd_t, cd_f, cd_d, okO_setI, okA_setI, okL_setI, aLen_setI, hR_setI, hI_setI, Bool.true_and, Bool.and_true, Bool.and_self, Option.isNone_some, Option.isSome_some, Option.isNone_none, Option.isSome_none, okO_chI, okA_chI, okL_chI, aLen_chI, hR_chI, ↓reduceIte, not_true_eq_false, not_false_eq_true, eq_self, c10, WLr w, R227e w isR81 e3, X212_3, ltsm, X212_6, X212_9, X212_15, R232e w isR81 e3, X212_17]
theorem C211e {rb dr : Nat} {jd : Option Nat} {h0 : rz_H} (w0 : Wf rb dr jd h0) {h : rz_H} {e : Nat × Nat} (s : Le dr h0 h e) (x : Int32) (d : Nat) : ∃ h', cW (d + 6) 211 [rz_r (some 81), rz_i x] h = some (rz_i 0, h') ∧ Le dr h0 h' e := by
  have hd := isW_dr w0
  have w : Wf rb dr jd h := w0.e s.1.1
  obtain ⟨v, h', e1, s1⟩ := s.add w0 (-1) 0 (d + 4)
  refine ⟨h', ?_, s1⟩
  have b5 := obR (WLr w).2.2.2
  rw [X211]
  simp only [bI_some, bV_some, bR_some, bL_some, ob_some, cd_t, cd_f, cd_d, okO_setI, okA_setI, okL_setI, aLen_setI, hR_setI, hI_setI, Bool.true_and, Bool.and_true, Bool.and_self, Option.isNone_some, Option.isSome_some, Option.isNone_none, Option.isSome_none, okO_chI, okA_chI, okL_chI, aLen_chI, hR_chI, ↓reduceIte, not_true_eq_false, not_false_eq_true, eq_self, c10, WLr w, R227e w isR81 s.ne, ltsm, X211_20, X211_37, C213e w s.ne, X211_40, C212e w s.ne, X211_43]
  rw [X211_46]
  simp only [bI_some, bV_some, bR_some, bL_some, ob_some, cd_t, cd_f, cd_d, okO_setI, okA_setI, okL_setI, aLen_setI, hR_setI, hI_setI, Bool.true_and, Bool.and_true, Bool.and_self, Option.isNone_some, Option.isSome_some, Option.isNone_none, Option.isSome_none, okO_chI, okA_chI, okL_chI, aLen_chI, hR_chI, ↓reduceIte, not_true_eq_false, not_false_eq_true, eq_self, c10, WLr w, ↓b5, WLw w hd, e1, X211_52]
theorem L210e {rb dr : Nat} {jd : Option Nat} {h : rz_H} (w : Wf rb dr jd h) (e3 : ¬ hI h 81 3 = 0) (x i : Int32) (d : Nat) (j3 : Option rz_V) : rW (d + 3) 210 (5, (0, 0), [some (rz_r (some 81)), some (rz_i x), some (rz_i i), j3], [], h) = some (rz_i 0, h) := by
  rw [X210_5]
  by_cases c : (240 : Int32) ≤ i
  · simp only [bI_some, bV_some, bR_some, bL_some, ob_some, cd_t, cd_f, cd_d, okO_setI, okA_setI, okL_setI, aLen_setI, hR_setI, hI_setI, Bool.true_and, Bool.and_true, Bool.and_self, Option.isNone_some, Option.isSome_some, Option.isNone_none, Option.isSome_none, okO_chI, okA_chI, okL_chI, aLen_chI, hR_chI, ↓reduceIte, not_true_eq_false, not_false_eq_true, eq_self, c10, c, X210_29]
  · simp only [bI_some, bV_some, bR_some, bL_some, ob_some, cd_t, cd_f, cd_d, okO_setI, okA_setI, okL_setI, aLen_setI, hR_setI, hI_setI, Bool.true_and, Bool.and_true, Bool.and_self, Option.isNone_some, Option.isSome_some, Option.isNone_none, Option.isSome_none, okO_chI, okA_chI, okL_chI, aLen_chI, hR_chI, ↓reduceIte, not_true_eq_false, not_false_eq_true, eq_self, c10, c, X210_8, WLr w, R227e w isR81 e3, ltsm, X210_29]
theorem C210e {rb dr : Nat} {jd : Option Nat} {h0 : rz_H} (w0 : Wf rb dr jd h0) {h : rz_H} {e : Nat × Nat} (s : Le dr h0 h e) (x : Int32) (d : Nat) : ∃ h', cW (d + 7) 210 [rz_r (some 81), rz_i x] h = some (rz_i 0, h') ∧ Le dr h0 h' e := by
  have w : Wf rb dr jd h := w0.e s.1.1
  obtain ⟨h', e1, s1⟩ := C211e w0 s x d
  have w1 : Wf rb dr jd h' := w0.e s1.1.1
  refine ⟨h', ?_, s1⟩
  rw [X210, e1]
  simp only [bI_some, bV_some, bR_some, bL_some, ob_some, cd_t, cd_f, cd_d, okO_setI, okA_setI, okL_setI, aLen_setI, hR_setI, hI_setI, Bool.true_and, Bool.and_true, Bool.and_self, Option.isNone_some, Option.isSome_some, Option.isNone_none, Option.isSome_none, okO_chI, okA_chI, okL_chI, aLen_chI, hR_chI, ↓reduceIte, not_true_eq_false, not_false_eq_true, eq_self, c10, WLr w, X210_3]
  exact L210e w1 s1.ne _ _ (d + 3) _
theorem L209e {rb dr : Nat} {jd : Option Nat} {h : rz_H} (w : Wf rb dr jd h) (e3 : ¬ hI h 81 3 = 0) (x i : Int32) (d : Nat) (j3 : Option rz_V) : rW (d + 3) 209 (5, (0, 0), [some (rz_r (some 81)), some (rz_i x), some (rz_i i), j3], [], h) = some (rz_i 0, h) := by
  rw [X209_5]
  by_cases c : (240 : Int32) ≤ i
  · simp only [bI_some, bV_some, bR_some, bL_some, ob_some, cd_t, cd_f, cd_d, okO_setI, okA_setI, okL_setI, aLen_setI, hR_setI, hI_setI, Bool.true_and, Bool.and_true, Bool.and_self, Option.isNone_some, Option.isSome_some, Option.isNone_none, Option.isSome_none, okO_chI, okA_chI, okL_chI, aLen_chI, hR_chI, ↓reduceIte, not_true_eq_false, not_false_eq_true, eq_self, c10, c, X209_29]
  · simp only [bI_some, bV_some, bR_some, bL_some, ob_some, cd_t, cd_f, cd_d, okO_setI, okA_setI, okL_setI, aLen_setI, hR_setI, hI_setI, Bool.true_and, Bool.and_true, Bool.and_self, Option.isNone_some, Option.isSome_some, Option.isNone_none, Option.isSome_none, okO_chI, okA_chI, okL_chI, aLen_chI, hR_chI, ↓reduceIte, not_true_eq_false, not_false_eq_true, eq_self, c10, c, X209_8, WLr w, R227e w isR81 e3, ltsm, X209_29]
theorem C209e {rb dr : Nat} {jd : Option Nat} {h0 : rz_H} (w0 : Wf rb dr jd h0) {h : rz_H} {e : Nat × Nat} (s : Le dr h0 h e) (x : Int32) (d : Nat) : ∃ h', cW (d + 8) 209 [rz_r (some 81), rz_i x] h = some (rz_i 0, h') ∧ Le dr h0 h' e := by
  have w : Wf rb dr jd h := w0.e s.1.1
  obtain ⟨h', e1, s1⟩ := C210e w0 s x d
  have w1 : Wf rb dr jd h' := w0.e s1.1.1
  refine ⟨h', ?_, s1⟩
  rw [X209, e1]
  simp only [bI_some, bV_some, bR_some, bL_some, ob_some, cd_t, cd_f, cd_d, okO_setI, okA_setI, okL_setI, aLen_setI, hR_setI, hI_setI, Bool.true_and, Bool.and_true, Bool.and_self, Option.isNone_some, Option.isSome_some, Option.isNone_none, Option.isSome_none, okO_chI, okA_chI, okL_chI, aLen_chI, hR_chI, ↓reduceIte, not_true_eq_false, not_false_eq_true, eq_self, c10, WLr w, X209_3]
  exact L209e w1 s1.ne _ _ (d + 4) _
theorem C212 {rb dr : Nat} {jd : Option Nat} {h : rz_H} (w : Wf rb dr jd h) {N : Nat} {t : Nat → Nat} (T : Tq h N t) {L p : Nat} (hL : L ≤ N) (r : Rs 81 h L p) (hp : p ≤ L) (d : Nat) : cW (d + 3) 212 [rz_r (some 81)] h = some (rz_i (pkI t L p), if p < L ∧ cmpT (t p) = true then setI h 81 2 (nI (p + 1)) else setI (setI h 81 3 1) 81 4 (nI p)) := by
  have hN := T.1.1
  have hb : p < L → t p < 256 := fun q => (T.1.2 p (by omega)).1
  have pk := fun d => R227 w isR81 T hL r.1 r.2.1 (by omega) r.2.2 d
  have q1 : pkI t L p = 60 ↔ p < L ∧ t p = 60 := pkk_eq (m := 60) hb (by omega)
  have q2 : pkI t L p = 62 ↔ p < L ∧ t p = 62 := pkk_eq (m := 62) hb (by omega)
  have q3 : pkI t L p = 61 ↔ p < L ∧ t p = 61 := pkk_eq (m := 61) hb (by omega)
  have lk : cmpT (t p) = true ↔ (t p = 60 ∨ t p = 62 ∨ t p = 61) := ⟨of_decide_eq_true, decide_eq_true⟩
  have st : cW (d + 3) 212 [rz_r (some 81)] h = rW (d + 2) 212 (3, (0, 0), [some (rz_r (some 81)), some (rz_i (pkI t L p))], [], h) := by
    rw [X212, pk]
    simp only [bI_some, bV_some, bR_some, bL_some, ob_some, cd_t, cd_f, cd_d, okO_setI, okA_setI, okL_setI, aLen_setI, hR_setI, hI_setI, Bool.true_and, Bool.and_true, Bool.and_self, Option.isNone_some, Option.isSome_some, Option.isNone_none, Option.isSome_none, okO_chI, okA_chI, okL_chI, aLen_chI, hR_chI, ↓reduceIte, not_true_eq_false, not_false_eq_true, eq_self, c10, WLr w]
  rw [st]
  generalize pkI t L p = x at q1 q2 q3 ⊢
  rw [X212_3]
  by_cases c : p < L ∧ cmpT (t p) = true
  · rw [if_pos c]
    have fin : rW (d + 2) 212 (12, (0, 0), [some (rz_r (some 81)), some (rz_i x)], [], h) = some (rz_i x, setI h 81 2 (nI (p + 1))) := by
      rw [X212_12]
      simp only [bI_some, bV_some, bR_some, bL_some, ob_some, cd_t, cd_f, cd_d, okO_setI, okA_setI, okL_setI, aLen_setI, hR_setI, hI_setI, Bool.true_and, Bool.and_true, Bool.and_self, Option.isNone_some, Option.isSome_some, Option.isNone_none, Option.isSome_none, okO_chI, okA_chI, okL_chI, aLen_chI, hR_chI, ↓reduceIte, not_true_eq_false, not_false_eq_true, eq_self, c10, WLr w, R229 w isR81 r.2.1, X212_14, X212_17]
    by_cases d1 : x = 60
    · simp only [bI_some, bV_some, bR_some, bL_some, ob_some, cd_t, cd_f, cd_d, okO_setI, okA_setI, okL_setI, aLen_setI, hR_setI, hI_setI, Bool.true_and, Bool.and_true, Bool.and_self, Option.isNone_some, Option.isSome_some, Option.isNone_none, Option.isSome_none, okO_chI, okA_chI, okL_chI, aLen_chI, hR_chI, ↓reduceIte, not_true_eq_false, not_false_eq_true, eq_self, c10, if_pos d1]
      exact fin
    · simp only [bI_some, bV_some, bR_some, bL_some, ob_some, cd_t, cd_f, cd_d, okO_setI, okA_setI, okL_setI, aLen_setI, hR_setI, hI_setI, Bool.true_and, Bool.and_true, Bool.and_self, Option.isNone_some, Option.isSome_some, Option.isNone_none, Option.isSome_none, okO_chI, okA_chI, okL_chI, aLen_chI, hR_chI, ↓reduceIte, not_true_eq_false, not_false_eq_true, eq_self, c10, if_neg d1]
      rw [X212_6]
      by_cases d2 : x = 62
      · simp only [bI_some, bV_some, bR_some, bL_some, ob_some, cd_t, cd_f, cd_d, okO_setI, okA_setI, okL_setI, aLen_setI, hR_setI, hI_setI, Bool.true_and, Bool.and_true, Bool.and_self, Option.isNone_some, Option.isSome_some, Option.isNone_none, Option.isSome_none, okO_chI, okA_chI, okL_chI, aLen_chI, hR_chI, ↓reduceIte, not_true_eq_false, not_false_eq_true, eq_self, c10, if_pos d2]
        exact fin
      · simp only [bI_some, bV_some, bR_some, bL_some, ob_some, cd_t, cd_f, cd_d, okO_setI, okA_setI, okL_setI, aLen_setI, hR_setI, hI_setI, Bool.true_and, Bool.and_true, Bool.and_self, Option.isNone_some, Option.isSome_some, Option.isNone_none, Option.isSome_none, okO_chI, okA_chI, okL_chI, aLen_chI, hR_chI, ↓reduceIte, not_true_eq_false, not_false_eq_true, eq_self, c10, if_neg d2]
        rw [X212_9]
        have d3 : x = 61 := by
          rcases lk.mp c.2 with z | z | z
          · exact absurd (q1.mpr ⟨c.1, z⟩) d1
          · exact absurd (q2.mpr ⟨c.1, z⟩) d2
          · exact q3.mpr ⟨c.1, z⟩
        subst d3
        simp only [bI_some, bV_some, bR_some, bL_some, ob_some, cd_t, cd_f, cd_d, okO_setI, okA_setI, okL_setI, aLen_setI, hR_setI, hI_setI, Bool.true_and, Bool.and_true, Bool.and_self, Option.isNone_some, Option.isSome_some, Option.isNone_none, Option.isSome_none, okO_chI, okA_chI, okL_chI, aLen_chI, hR_chI, ↓reduceIte, not_true_eq_false, not_false_eq_true, eq_self, c10]
        exact fin
  · rw [if_neg c]
    have d1 : ¬ x = 60 := fun z => c ⟨(q1.mp z).1, lk.mpr (Or.inl (q1.mp z).2)⟩
    have d2 : ¬ x = 62 := fun z => c ⟨(q2.mp z).1, lk.mpr (Or.inr (Or.inl (q2.mp z).2))⟩
    have d3 : ¬ x = 61 := fun z => c ⟨(q3.mp z).1, lk.mpr (Or.inr (Or.inr (q3.mp z).2))⟩
    simp only [bI_some, bV_some, bR_some, bL_some, ob_some, cd_t, cd_f, cd_d, okO_setI, okA_setI, okL_setI, aLen_setI, hR_setI, hI_setI, Bool.true_and, Bool.and_true, Bool.and_self, Option.isNone_some, Option.isSome_some, Option.isNone_none, Option.isSome_none, okO_chI, okA_chI, okL_chI, aLen_chI, hR_chI, ↓reduceIte, not_true_eq_false, not_false_eq_true, eq_self, c10, if_neg d1]
    rw [X212_6]
    simp only [bI_some, bV_some, bR_some, bL_some, ob_some, cd_t, cd_f, cd_d, okO_setI, okA_setI, okL_setI, aLen_setI, hR_setI, hI_setI, Bool.true_and, Bool.and_true, Bool.and_self, Option.isNone_some, Option.isSome_some, Option.isNone_none, Option.isSome_none, okO_chI, okA_chI, okL_chI, aLen_chI, hR_chI, ↓reduceIte, not_true_eq_false, not_false_eq_true, eq_self, c10, if_neg d2]
    rw [X212_9]
    simp only [bI_some, bV_some, bR_some, bL_some, ob_some, cd_t, cd_f, cd_d, okO_setI, okA_setI, okL_setI, aLen_setI, hR_setI, hI_setI, Bool.true_and, Bool.and_true, Bool.and_self, Option.isNone_some, Option.isSome_some, Option.isNone_none, Option.isSome_none, okO_chI, okA_chI, okL_chI, aLen_chI, hR_chI, ↓reduceIte, not_true_eq_false, not_false_eq_true, eq_self, c10, d3]
    rw [X212_15]
    simp only [bI_some, bV_some, bR_some, bL_some, ob_some, cd_t, cd_f, cd_d, okO_setI, okA_setI, okL_setI, aLen_setI, hR_setI, hI_setI, Bool.true_and, Bool.and_true, Bool.and_self, Option.isNone_some, Option.isSome_some, Option.isNone_none, Option.isSome_none, okO_chI, okA_chI, okL_chI, aLen_chI, hR_chI, ↓reduceIte, not_true_eq_false, not_false_eq_true, eq_self, c10, WLr w, R232 w isR81 r.2.1 r.2.2, X212_17]
theorem C211 {rb dr : Nat} {jd : Option Nat} {h0 : rz_H} (w0 : Wf rb dr jd h0) {N : Nat} {t : Nat → Nat} (T0 : Tq h0 N t) {L : Nat} (hL : L ≤ N) (h240 : L ≤ 240) {cs dep : Nat} {op : Bool} (ho : op = true ↔ dep < 6) (h6 : dep ≤ 6) {tin ain sm : Nat → CC → Nat → RC} {B1 B2 B3 : Nat} (hs1 : op = true → Sp L true B1 tin) (hs2 : op = true → Sp L true B2 ain) (hs3 : Sp L false B3 sm) {d : Nat} (i1 : op = true → SC dr cs h0 L 211 (d + 6) (dep + 1) tin) (i2 : op = true → SC dr cs h0 L 209 (d + 6) (dep + 1) ain) (i3 : SC dr cs h0 L 213 (d + 6) dep sm) : SC dr cs h0 L 211 (d + 7) dep (tstT t L op tin ain sm) := by
  intro h p c n s hp hroom
  have hd := isW_dr w0
  have w : Wf rb dr jd h := w0.e s.1.1
  have T := T0.fe hd s.1.fe
  have hN := T.1.1
  have r := s.2.1
  have hb : p < L → t p < 256 := fun q => (T.1.2 p (by omega)).1
  have pk := fun d => R227 w isR81 T hL r.1 r.2.1 (by omega) r.2.2 d
  have e33 : pkI t L p = 33 ↔ p < L ∧ t p = 33 := pkk_eq (m := 33) hb (by omega)
  have e40 : pkI t L p = 40 ↔ p < L ∧ t p = 40 := pkk_eq (m := 40) hb (by omega)
  have s1 : Lz dr cs h0 (setI h 81 2 (nI (p + 1))) L (p + 1) c n := s.go hd (p + 1)
  have w1 : Wf rb dr jd (setI h 81 2 (nI (p + 1))) := w
  have add : ∀ (z : RC) (h2 : rz_H) (k : Nat) (x : Int32), x = nI k → (∀ q, z = Sum.inr q → cs + q.2.2 < 256) → Oz dr cs h0 h2 L z → ∃ v h3, cW (d + 6) 197 [rz_r (some dr), rz_i x, rz_i 0] h2 = some (rz_i v, h3) ∧ Oz dr cs h0 h3 L (cbd z (ptst k)) := fun z h2 k x ex hz o => by
    subst ex
    rcases o with ⟨e, he, le⟩ | ⟨q, hq, s2⟩
    · obtain ⟨v, h3, e3, le3⟩ := le.add w0 (nI k) 0 (d + 5)
      rw [he]
      exact ⟨v, h3, e3, Or.inl ⟨e, rfl, le3⟩⟩
    · obtain ⟨h3, e3, s3⟩ := s2.add w0 (hz q hq) (k, 0) (d + 5)
      rw [vl0] at e3
      rw [hq]
      exact ⟨_, h3, e3, Or.inr ⟨_, rfl, s3⟩⟩
  have wf : ∀ (z : RC) (h2 : rz_H), Oz dr cs h0 h2 L z → Wf rb dr jd h2 := fun z h2 o => by
    rcases o with ⟨e, he, le⟩ | ⟨q, hq, s2⟩
    · exact w0.e le.1.1
    · exact w0.e s2.1.1
  rw [X211, pk]
  unfold tstT
  by_cases c1 : p < L ∧ t p = 33
  · rw [if_pos c1]
    simp only [bI_some, bV_some, bR_some, bL_some, ob_some, cd_t, cd_f, cd_d, okO_setI, okA_setI, okL_setI, aLen_setI, hR_setI, hI_setI, Bool.true_and, Bool.and_true, Bool.and_self, Option.isNone_some, Option.isSome_some, Option.isNone_none, Option.isSome_none, okO_chI, okA_chI, okL_chI, aLen_chI, hR_chI, ↓reduceIte, not_true_eq_false, not_false_eq_true, eq_self, c10, WLr w, e33.mpr c1]
    rw [X211_4]
    by_cases c2 : op = true
    · rw [if_pos c2]
      have c216 := fun d => C216 w r.2.1 (ho.mp c2) d
      obtain ⟨h2, e2, o2⟩ := i1 c2 _ (p + 1) c n s1 (by omega) (by omega)
      have w2 := wf _ _ o2
      obtain ⟨v, h3, e3, o3⟩ := add _ h2 3 3 rfl (fun q hq => by
        have gg := (hs1 c2).at (by omega) hq
        have a1 := gg.1
        have a2 := gg.2.2.1
        omega) o2
      refine ⟨h3, ?_, o3⟩
      have b5 := obR (WLr w2).2.2.2
      simp only [bI_some, bV_some, bR_some, bL_some, ob_some, cd_t, cd_f, cd_d, okO_setI, okA_setI, okL_setI, aLen_setI, hR_setI, hI_setI, Bool.true_and, Bool.and_true, Bool.and_self, Option.isNone_some, Option.isSome_some, Option.isNone_none, Option.isSome_none, okO_chI, okA_chI, okL_chI, aLen_chI, hR_chI, ↓reduceIte, not_true_eq_false, not_false_eq_true, eq_self, c10, WLr w, c216, c10]
      rw [X211_8, nI_1, e2]
      simp only [bV_some, cd_t, (WLr w1).1]
      rw [X211_13]
      simp only [bI_some, bV_some, bR_some, bL_some, ob_some, cd_t, cd_f, cd_d, okO_setI, okA_setI, okL_setI, aLen_setI, hR_setI, hI_setI, Bool.true_and, Bool.and_true, Bool.and_self, Option.isNone_some, Option.isSome_some, Option.isNone_none, Option.isSome_none, okO_chI, okA_chI, okL_chI, aLen_chI, hR_chI, ↓reduceIte, not_true_eq_false, not_false_eq_true, eq_self, c10, WLr w2, ↓b5, WLw w2 hd, e3, X211_52]
    · rw [if_neg c2]
      refine ⟨_, ?_, Or.inl ⟨_, rfl, s.bl 5 p (by omega) (by omega)⟩⟩
      have c216 := fun d => C216n w r.2.1 r.2.2 (fun z => c2 (ho.mpr z)) (by omega) d
      simp only [bI_some, bV_some, bR_some, bL_some, ob_some, cd_t, cd_f, cd_d, okO_setI, okA_setI, okL_setI, aLen_setI, hR_setI, hI_setI, Bool.true_and, Bool.and_true, Bool.and_self, Option.isNone_some, Option.isSome_some, Option.isNone_none, Option.isSome_none, okO_chI, okA_chI, okL_chI, aLen_chI, hR_chI, ↓reduceIte, not_true_eq_false, not_false_eq_true, eq_self, c10, WLr w, c216, X211_52]
      rfl
  · rw [if_neg c1]
    have n33 : ¬ pkI t L p = 33 := fun z => c1 (e33.mp z)
    simp only [bI_some, bV_some, bR_some, bL_some, ob_some, cd_t, cd_f, cd_d, okO_setI, okA_setI, okL_setI, aLen_setI, hR_setI, hI_setI, Bool.true_and, Bool.and_true, Bool.and_self, Option.isNone_some, Option.isSome_some, Option.isNone_none, Option.isSome_none, okO_chI, okA_chI, okL_chI, aLen_chI, hR_chI, ↓reduceIte, not_true_eq_false, not_false_eq_true, eq_self, c10, WLr w, n33]
    rw [X211_20, pk]
    by_cases c3 : p < L ∧ t p = 40
    · rw [if_pos c3]
      simp only [bI_some, bV_some, bR_some, bL_some, ob_some, cd_t, cd_f, cd_d, okO_setI, okA_setI, okL_setI, aLen_setI, hR_setI, hI_setI, Bool.true_and, Bool.and_true, Bool.and_self, Option.isNone_some, Option.isSome_some, Option.isNone_none, Option.isSome_none, okO_chI, okA_chI, okL_chI, aLen_chI, hR_chI, ↓reduceIte, not_true_eq_false, not_false_eq_true, eq_self, c10, WLr w, e40.mpr c3]
      rw [X211_24]
      by_cases c2 : op = true
      · rw [if_pos c2]
        have c216 := fun d => C216 w r.2.1 (ho.mp c2) d
        obtain ⟨h2, e2, o2⟩ := i2 c2 _ (p + 1) c n s1 (by omega) (by omega)
        have w2 := wf _ _ o2
        have st2 : ∀ h', rW (d + 6) 211 (33, (0, 0), [some (rz_r (some 81)), some (rz_i (nI dep)), none], [], h2) = some (rz_i 0, h') → (bif okO h 81 [5] then bI (cW (d + 6) 216 [rz_r (some 81), rz_i (nI dep)] h) fun x2 h1 => (bif decide (x2 = 0) then rW (d + 6) 211 (52, (0, 0), [some (rz_r (some 81)), some (rz_i (nI dep)), none], [], h1) else rW (d + 6) 211 (28, (0, 0), [some (rz_r (some 81)), some (rz_i (nI dep)), none], [], h1)) else none) = some (rz_i 0, h') := fun h' e => by
          simp only [bI_some, bV_some, bR_some, bL_some, ob_some, cd_t, cd_f, cd_d, okO_setI, okA_setI, okL_setI, aLen_setI, hR_setI, hI_setI, Bool.true_and, Bool.and_true, Bool.and_self, Option.isNone_some, Option.isSome_some, Option.isNone_none, Option.isSome_none, okO_chI, okA_chI, okL_chI, aLen_chI, hR_chI, ↓reduceIte, not_true_eq_false, not_false_eq_true, eq_self, c10, WLr w, c216, c10]
          rw [X211_28, nI_1, e2]
          simp only [bV_some, cd_t, (WLr w1).1]
          exact e
        rcases o2 with ⟨e, he, le⟩ | ⟨q, hq, s2⟩
        · rw [he]
          refine ⟨h2, st2 h2 ?_, Or.inl ⟨e, rfl, le⟩⟩
          have e233 : ∀ d, cW (d + 3) 233 [rz_r (some 81), rz_i 41] h2 = some (rz_i 0, h2) := fun d => R233e w2 isR81 le.ne d (m := 41) (by omega)
          rw [X211_33]
          simp only [bI_some, bV_some, bR_some, bL_some, ob_some, cd_t, cd_f, cd_d, okO_setI, okA_setI, okL_setI, aLen_setI, hR_setI, hI_setI, Bool.true_and, Bool.and_true, Bool.and_self, Option.isNone_some, Option.isSome_some, Option.isNone_none, Option.isSome_none, okO_chI, okA_chI, okL_chI, aLen_chI, hR_chI, ↓reduceIte, not_true_eq_false, not_false_eq_true, eq_self, c10, WLr w2, e233, X211_36, X211_52]
        · rw [hq]
          have g := (hs2 c2).at (by omega) hq
          have T2 := T0.fe hd s2.1.fe
          have r2 := s2.2.1
          have gL := g.1
          have e233 : ∀ d, cW (d + 3) 233 [rz_r (some 81), rz_i 41] h2 = if q.1 < L ∧ t q.1 = 41 then some (rz_i 0, setI h2 81 2 (nI (q.1 + 1))) else some (rz_i 0, setI (setI h2 81 3 1) 81 4 (nI q.1)) := fun d => R233 w2 isR81 T2 hL r2.1 r2.2.1 (by omega) r2.2.2 (m := 41) (by omega) d
          show ∃ h', _ ∧ Oz dr cs h0 h' L (clL t L 41 q.1 q.2.1 q.2.2)
          unfold clL
          by_cases c4 : q.1 < L ∧ t q.1 = 41
          · rw [if_pos c4]
            refine ⟨_, st2 (setI h2 81 2 (nI (q.1 + 1))) ?_, Or.inr ⟨_, rfl, s2.go hd (q.1 + 1)⟩⟩
            rw [X211_33]
            simp only [bI_some, bV_some, bR_some, bL_some, ob_some, cd_t, cd_f, cd_d, okO_setI, okA_setI, okL_setI, aLen_setI, hR_setI, hI_setI, Bool.true_and, Bool.and_true, Bool.and_self, Option.isNone_some, Option.isSome_some, Option.isNone_none, Option.isSome_none, okO_chI, okA_chI, okL_chI, aLen_chI, hR_chI, ↓reduceIte, not_true_eq_false, not_false_eq_true, eq_self, c10, WLr w2, e233, if_pos c4, X211_36, X211_52]
          · rw [if_neg c4]
            refine ⟨_, st2 (setI (setI h2 81 3 1) 81 4 (nI q.1)) ?_, Or.inl ⟨_, rfl, s2.bl 1 q.1 (by omega) (by omega)⟩⟩
            rw [X211_33]
            simp only [bI_some, bV_some, bR_some, bL_some, ob_some, cd_t, cd_f, cd_d, okO_setI, okA_setI, okL_setI, aLen_setI, hR_setI, hI_setI, Bool.true_and, Bool.and_true, Bool.and_self, Option.isNone_some, Option.isSome_some, Option.isNone_none, Option.isSome_none, okO_chI, okA_chI, okL_chI, aLen_chI, hR_chI, ↓reduceIte, not_true_eq_false, not_false_eq_true, eq_self, c10, WLr w2, e233, if_neg c4, X211_36, X211_52]
      · rw [if_neg c2]
        refine ⟨_, ?_, Or.inl ⟨_, rfl, s.bl 5 p (by omega) (by omega)⟩⟩
        have c216 := fun d => C216n w r.2.1 r.2.2 (fun z => c2 (ho.mpr z)) (by omega) d
        simp only [bI_some, bV_some, bR_some, bL_some, ob_some, cd_t, cd_f, cd_d, okO_setI, okA_setI, okL_setI, aLen_setI, hR_setI, hI_setI, Bool.true_and, Bool.and_true, Bool.and_self, Option.isNone_some, Option.isSome_some, Option.isNone_none, Option.isSome_none, okO_chI, okA_chI, okL_chI, aLen_chI, hR_chI, ↓reduceIte, not_true_eq_false, not_false_eq_true, eq_self, c10, WLr w, c216, X211_52]
        rfl
    · rw [if_neg c3]
      have n40 : ¬ pkI t L p = 40 := fun z => c3 (e40.mp z)
      simp only [bI_some, bV_some, bR_some, bL_some, ob_some, cd_t, cd_f, cd_d, okO_setI, okA_setI, okL_setI, aLen_setI, hR_setI, hI_setI, Bool.true_and, Bool.and_true, Bool.and_self, Option.isNone_some, Option.isSome_some, Option.isNone_none, Option.isSome_none, okO_chI, okA_chI, okL_chI, aLen_chI, hR_chI, ↓reduceIte, not_true_eq_false, not_false_eq_true, eq_self, c10, WLr w, n40]
      obtain ⟨h2, e2, o2⟩ := i3 h p c n s hp hroom
      have w2 := wf _ _ o2
      have st2 : rW (d + 6) 211 (37, (0, 0), [some (rz_r (some 81)), some (rz_i (nI dep)), none], [], h) = rW (d + 6) 211 (40, (0, 0), [some (rz_r (some 81)), some (rz_i (nI dep)), none], [], h2) := by
        rw [X211_37, e2]
        simp only [bI_some, bV_some, bR_some, bL_some, ob_some, cd_t, cd_f, cd_d, okO_setI, okA_setI, okL_setI, aLen_setI, hR_setI, hI_setI, Bool.true_and, Bool.and_true, Bool.and_self, Option.isNone_some, Option.isSome_some, Option.isNone_none, Option.isSome_none, okO_chI, okA_chI, okL_chI, aLen_chI, hR_chI, ↓reduceIte, not_true_eq_false, not_false_eq_true, eq_self, c10, WLr w]
      rw [st2]
      -- in a fault, from the sign on
      have fe : ∀ (g : rz_H) (e : Nat × Nat) (x : Int32), Le dr h0 g e → ∃ h', rW (d + 6) 211 (43, (0, 0), [some (rz_r (some 81)), some (rz_i (nI dep)), some (rz_i x)], [], g) = some (rz_i 0, h') ∧ Le dr h0 h' e := fun g e x le => by
        have wg : Wf rb dr jd g := w0.e le.1.1
        obtain ⟨v, h3, e3, le3⟩ := le.add w0 x 0 (d + 5)
        refine ⟨h3, ?_, le3⟩
        have b5 := obR (WLr wg).2.2.2
        rw [X211_43]
        simp only [bI_some, bV_some, bR_some, bL_some, ob_some, cd_t, cd_f, cd_d, okO_setI, okA_setI, okL_setI, aLen_setI, hR_setI, hI_setI, Bool.true_and, Bool.and_true, Bool.and_self, Option.isNone_some, Option.isSome_some, Option.isNone_none, Option.isSome_none, okO_chI, okA_chI, okL_chI, aLen_chI, hR_chI, ↓reduceIte, not_true_eq_false, not_false_eq_true, eq_self, c10, WLr wg, C213e wg le.ne]
        rw [X211_46]
        simp only [bI_some, bV_some, bR_some, bL_some, ob_some, cd_t, cd_f, cd_d, okO_setI, okA_setI, okL_setI, aLen_setI, hR_setI, hI_setI, Bool.true_and, Bool.and_true, Bool.and_self, Option.isNone_some, Option.isSome_some, Option.isNone_none, Option.isSome_none, okO_chI, okA_chI, okL_chI, aLen_chI, hR_chI, ↓reduceIte, not_true_eq_false, not_false_eq_true, eq_self, c10, WLr wg, ↓b5, WLw wg hd, e3, X211_52]
      show ∃ h', _ ∧ Oz dr cs h0 h' L (cbd (sm p c n) (fun p1 c1 n1 => if p1 < L ∧ cmpT (t p1) = true then cbd (sm (p1 + 1) c1 n1) (ptst (t p1)) else Sum.inl (1, p1)))
      rcases o2 with ⟨e, he, le⟩ | ⟨q, hq, s2⟩
      · rw [he]
        obtain ⟨h3, e3, le3⟩ := fe h2 e (-1) le
        refine ⟨h3, ?_, Or.inl ⟨e, rfl, le3⟩⟩
        rw [X211_40]
        simp only [bI_some, bV_some, bR_some, bL_some, ob_some, cd_t, cd_f, cd_d, okO_setI, okA_setI, okL_setI, aLen_setI, hR_setI, hI_setI, Bool.true_and, Bool.and_true, Bool.and_self, Option.isNone_some, Option.isSome_some, Option.isNone_none, Option.isSome_none, okO_chI, okA_chI, okL_chI, aLen_chI, hR_chI, ↓reduceIte, not_true_eq_false, not_false_eq_true, eq_self, c10, WLr w2, C212e w2 le.ne]
        exact e3
      · rw [hq]
        have g := hs3.at hp hq
        have T2 := T0.fe hd s2.1.fe
        have r2 := s2.2.1
        have gL := g.1
        have gn := g.2.2.1
        have c212 := fun d => C212 w2 T2 hL r2 gL d
        show ∃ h', _ ∧ Oz dr cs h0 h' L (if q.1 < L ∧ cmpT (t q.1) = true then cbd (sm (q.1 + 1) q.2.1 q.2.2) (ptst (t q.1)) else Sum.inl (1, q.1))
        by_cases c4 : q.1 < L ∧ cmpT (t q.1) = true
        · rw [if_pos c4]
          simp only [if_pos c4] at c212
          have s3 : Lz dr cs h0 (setI h2 81 2 (nI (q.1 + 1))) L (q.1 + 1) q.2.1 q.2.2 := s2.go hd (q.1 + 1)
          have w3 : Wf rb dr jd (setI h2 81 2 (nI (q.1 + 1))) := w2
          obtain ⟨h4, e4, o4⟩ := i3 _ (q.1 + 1) q.2.1 q.2.2 s3 (by omega) (by omega)
          have w4 := wf _ _ o4
          obtain ⟨v, h5, e5, o5⟩ := add _ h4 (t q.1) (nI (t q.1)) rfl (fun q' hq' => by
            have gg := hs3.at (by omega) hq'
            have a1 := gg.1
            have a2 := gg.2.2.1
            omega) o4
          refine ⟨h5, ?_, o5⟩
          have b5 := obR (WLr w4).2.2.2
          rw [X211_40, c212, pkk_in c4.1]
          simp only [bI_some, bV_some, bR_some, bL_some, ob_some, cd_t, cd_f, cd_d, okO_setI, okA_setI, okL_setI, aLen_setI, hR_setI, hI_setI, Bool.true_and, Bool.and_true, Bool.and_self, Option.isNone_some, Option.isSome_some, Option.isNone_none, Option.isSome_none, okO_chI, okA_chI, okL_chI, aLen_chI, hR_chI, ↓reduceIte, not_true_eq_false, not_false_eq_true, eq_self, c10, WLr w2]
          rw [X211_43, e4]
          simp only [bV_some, cd_t, (WLr w3).1]
          rw [X211_46]
          simp only [bI_some, bV_some, bR_some, bL_some, ob_some, cd_t, cd_f, cd_d, okO_setI, okA_setI, okL_setI, aLen_setI, hR_setI, hI_setI, Bool.true_and, Bool.and_true, Bool.and_self, Option.isNone_some, Option.isSome_some, Option.isNone_none, Option.isSome_none, okO_chI, okA_chI, okL_chI, aLen_chI, hR_chI, ↓reduceIte, not_true_eq_false, not_false_eq_true, eq_self, c10, WLr w4, ↓b5, WLw w4 hd, e5, X211_52]
        · rw [if_neg c4]
          simp only [if_neg c4] at c212
          obtain ⟨h3, e3, le3⟩ := fe _ (1, q.1) (pkI t L q.1) (s2.bl 1 q.1 (by omega) (by omega))
          refine ⟨h3, ?_, Or.inl ⟨_, rfl, le3⟩⟩
          rw [X211_40, c212]
          simp only [bI_some, bV_some, bR_some, bL_some, ob_some, cd_t, cd_f, cd_d, okO_setI, okA_setI, okL_setI, aLen_setI, hR_setI, hI_setI, Bool.true_and, Bool.and_true, Bool.and_self, Option.isNone_some, Option.isSome_some, Option.isNone_none, Option.isSome_none, okO_chI, okA_chI, okL_chI, aLen_chI, hR_chI, ↓reduceIte, not_true_eq_false, not_false_eq_true, eq_self, c10, WLr w2]
          exact e3
