/-! the law's text: the model closes what waits in a sum -/
theorem MS.pop {h0 h : rz_H} {N : Nat} {t : Nat → Nat} {L ms p : Nat} {c : CC} {n v : Nat} {r : List Nat} {op : Nat} (s : MS h0 h N t L ms p c n (v :: r) op) : MS h0 (setI h 109 11 (nI r.length)) N t L ms p c n r op := by
  obtain ⟨f, m, e10, cd, e11, ws, e9⟩ := s
  have oo : ∀ b i, ¬ (b = 109 ∧ i = 11) → hI (setI h 109 11 (nI r.length)) b i = hI h b i := fun b i z => by rw [hI_setI, if_neg z]
  exact ⟨⟨f.1, fun b i n1 n2 n3 => (oo b i (by omega)).trans (f.2 b i n1 n2 n3)⟩, m.fm (fun b i hb => oo b i (by omega)) ((oo 109 5 (by omega)).trans m.2.2.2.1) m.2.2.2.2, (oo 109 10 (by omega)).trans e10, fun i hi => (oo 114 _ (by omega)).trans (cd i hi), by rw [hI_setI, if_pos ⟨rfl, rfl⟩], ws.2.2.to r (fun i _ => oo 115 i (by omega)), (oo 109 9 (by omega)).trans e9⟩
theorem lts9 : ((2 : Int32) < 4 ∧ (3 : Int32) < 4 ∧ ¬ (4 : Int32) < 4 ∧ ¬ (5 : Int32) < 4 ∧ ¬ (6 : Int32) < 4) ∧ (¬ (1 : Int32) = 0 ∧ ¬ (3 : Int32) = 2) ∧ ((4 : Int32) ≤ 6 ∧ (5 : Int32) ≤ 6 ∧ (6 : Int32) ≤ 6) := by decide
theorem K59a {rb dr : Nat} {jd : Option Nat} {h0 : rz_H} (w0 : Wf rb dr jd h0) {h : rz_H} {N : Nat} {t : Nat → Nat} {L ms p : Nat} {c : CC} {n : Nat} {r : List Nat} {op sg : Nat} (hs : addT sg = true ∨ mulT sg = true) (s : MS h0 h N t L ms p c n (1048576 * sgN sg :: r) op) (hn : ms + n < 260) (hr : r.length < 250) (x : Int32) (hx : mulT sg = true ∨ x = 1) (d : Nat) : ∃ h', rW (d + 1) 59 (0, (0, 0), [some (rz_r (some 109)), some (rz_i x)], [], h) = rW (d + 1) 59 (0, (0, 0), [some (rz_r (some 109)), some (rz_i x)], [], h') ∧ MS h0 h' N t L ms p (psh c n (sg, 0)) (n + 1) r op := by
  have w : Wf rb dr jd h := w0.e s.1.1
  have k56 := fun d => K56 w hr (s.2.2.2.2.1.trans (by rw [List.length_cons])) s.2.2.2.2.2.1 d
  have z : sg = 43 ∨ sg = 45 ∨ sg = 42 ∨ sg = 47 ∨ sg = 37 := by
    rcases hs with y | y
    · have : sg = 43 ∨ sg = 45 := of_decide_eq_true y
      omega
    · have : sg = 42 ∨ sg = 47 ∨ sg = 37 := of_decide_eq_true y
      omega
  obtain ⟨h1, e1, s1⟩ := s.nt w0 hn (sg, 0) (k := sgN sg) (v := 0) (by rcases z with rfl | rfl | rfl | rfl | rfl <;> rfl) d
  have w1 : Wf rb dr jd h1 := w0.e s1.1.1
  have e11 : hI h1 109 11 = nI (r.length + 1) := s1.2.2.2.2.1.trans (by rw [List.length_cons])
  have u : nI (r.length + 1) - 1 = nI r.length := nI_sub (b := 1) (by omega)
  refine ⟨setI h1 109 11 (nI r.length), ?_, s1.pop⟩
  rw [E59_0]
  rcases z with rfl | rfl | rfl | rfl | rfl
  · have k56 : ∀ d, cW (d + 1) 56 [rz_r (some 109)] h = some (rz_i 2, h) := k56
    have e1 : cW (d + 1) 54 [rz_r (some 109), rz_i 2, rz_i 0] h = some (rz_i 0, h1) := e1
    have hx : x = 1 := hx.resolve_left (by decide)
    subst hx
    simp only [bI_some, bV_some, bR_some, bL_some, ob_some, cd_t, cd_f, cd_d, okO_setI, okA_setI, okL_setI, aLen_setI, hR_setI, hI_setI, Bool.true_and, Bool.and_true, Bool.and_self, Option.isNone_some, Option.isSome_some, Option.isNone_none, Option.isSome_none, okO_chI, okA_chI, okL_chI, aLen_chI, hR_chI, ↓reduceIte, not_true_eq_false, not_false_eq_true, eq_self, c10, WMd w, WMd w1, k56, lts9, e1, e11, u]
  · have k56 : ∀ d, cW (d + 1) 56 [rz_r (some 109)] h = some (rz_i 3, h) := k56
    have e1 : cW (d + 1) 54 [rz_r (some 109), rz_i 3, rz_i 0] h = some (rz_i 0, h1) := e1
    have hx : x = 1 := hx.resolve_left (by decide)
    subst hx
    simp only [bI_some, bV_some, bR_some, bL_some, ob_some, cd_t, cd_f, cd_d, okO_setI, okA_setI, okL_setI, aLen_setI, hR_setI, hI_setI, Bool.true_and, Bool.and_true, Bool.and_self, Option.isNone_some, Option.isSome_some, Option.isNone_none, Option.isSome_none, okO_chI, okA_chI, okL_chI, aLen_chI, hR_chI, ↓reduceIte, not_true_eq_false, not_false_eq_true, eq_self, c10, WMd w, WMd w1, k56, lts9, e1, e11, u]
  · have k56 : ∀ d, cW (d + 1) 56 [rz_r (some 109)] h = some (rz_i 4, h) := k56
    have e1 : cW (d + 1) 54 [rz_r (some 109), rz_i 4, rz_i 0] h = some (rz_i 0, h1) := e1
    simp only [bI_some, bV_some, bR_some, bL_some, ob_some, cd_t, cd_f, cd_d, okO_setI, okA_setI, okL_setI, aLen_setI, hR_setI, hI_setI, Bool.true_and, Bool.and_true, Bool.and_self, Option.isNone_some, Option.isSome_some, Option.isNone_none, Option.isSome_none, okO_chI, okA_chI, okL_chI, aLen_chI, hR_chI, ↓reduceIte, not_true_eq_false, not_false_eq_true, eq_self, c10, WMd w, WMd w1, k56, lts9, e1, e11, u]
  · have k56 : ∀ d, cW (d + 1) 56 [rz_r (some 109)] h = some (rz_i 5, h) := k56
    have e1 : cW (d + 1) 54 [rz_r (some 109), rz_i 5, rz_i 0] h = some (rz_i 0, h1) := e1
    simp only [bI_some, bV_some, bR_some, bL_some, ob_some, cd_t, cd_f, cd_d, okO_setI, okA_setI, okL_setI, aLen_setI, hR_setI, hI_setI, Bool.true_and, Bool.and_true, Bool.and_self, Option.isNone_some, Option.isSome_some, Option.isNone_none, Option.isSome_none, okO_chI, okA_chI, okL_chI, aLen_chI, hR_chI, ↓reduceIte, not_true_eq_false, not_false_eq_true, eq_self, c10, WMd w, WMd w1, k56, lts9, e1, e11, u]
  · have k56 : ∀ d, cW (d + 1) 56 [rz_r (some 109)] h = some (rz_i 6, h) := k56
    have e1 : cW (d + 1) 54 [rz_r (some 109), rz_i 6, rz_i 0] h = some (rz_i 0, h1) := e1
    simp only [bI_some, bV_some, bR_some, bL_some, ob_some, cd_t, cd_f, cd_d, okO_setI, okA_setI, okL_setI, aLen_setI, hR_setI, hI_setI, Bool.true_and, Bool.and_true, Bool.and_self, Option.isNone_some, Option.isSome_some, Option.isNone_none, Option.isSome_none, okO_chI, okA_chI, okL_chI, aLen_chI, hR_chI, ↓reduceIte, not_true_eq_false, not_false_eq_true, eq_self, c10, WMd w, WMd w1, k56, lts9, e1, e11, u]
