/-! the law's text: the model's sum, read to its end -/
theorem sgN_le (s : Nat) : sgN s ≤ 6 := by
  unfold sgN
  repeat' split
  all_goals omega
theorem sgN_m {s : Nat} (h : mulT s = true) : (4 : Int32) ≤ nI (sgN s) := by
  have z : s = 42 ∨ s = 47 ∨ s = 37 := of_decide_eq_true h
  rcases z with rfl | rfl | rfl <;> decide
theorem sgN_a {s : Nat} (h : addT s = true) : ¬ (4 : Int32) ≤ nI (sgN s) := by
  have z : s = 43 ∨ s = 45 := of_decide_eq_true h
  rcases z with rfl | rfl <;> decide
theorem sgN_n (s : Nat) : ¬ nI (sgN s) = -1 := nm9 _ (by have := sgN_le s; omega)
theorem K62p {rb dr : Nat} {jd : Option Nat} {h0 : rz_H} (w0 : Wf rb dr jd h0) {h : rz_H} {N : Nat} {t : Nat → Nat} {L ms p : Nat} {c : CC} {n : Nat} {W : List Nat} {op : Nat} (s : MS h0 h N t L ms p c n W op) (hW : W.length < 250) (hp : p < 900) (x : Int32) (k : Nat) (d : Nat) : rW d 62 (23, (0, 0), [some (rz_r (some 109)), some (rz_i x), some (rz_i (nI k))], [], h) = rW d 62 (43, (0, 0), [some (rz_r (some 109)), some (rz_i x), some (rz_i (nI k))], [], setI (setI (setI h 115 W.length (nI (1048576 * k))) 109 11 (nI (W.length + 1))) 109 5 (nI (p + 1))) := by
  have w : Wf rb dr jd h := w0.e s.1.1
  have e11 := s.2.2.2.2.1
  have e5 := s.2.1.2.2.2.1
  rw [X62_23]
  simp (disch := omega) only [↓cd_d, ↓irem_eq_mod, ↓ob_setI, ↓ob_chI, ↓ob_some, bI_some, bV_some, bR_some, bL_some, ob_some, cd_t, cd_f, okO_setI, okA_setI, okL_setI, aLen_setI, hR_setI, hI_setI, Bool.true_and, Bool.and_true, Bool.and_self, Option.isNone_some, Option.isSome_some, Option.isNone_none, Option.isSome_none, okO_chI, okA_chI, okL_chI, aLen_chI, hR_chI, ↓reduceIte, not_true_eq_false, not_false_eq_true, eq_self, c10, Nat.zero_add, nI_add, litA, litB, litM, nI_mul, nI_leI, nI_ltI, nI_eq, litLe, litLe2, litLt, litLt2, litEq, litEq2, in_nI, lit_in, nI_clamp, lit_cl, if_pos, if_neg, ↓WMb w, WMd w, e11, e5, X62_31, X62_37]
theorem K62k {rb dr : Nat} {jd : Option Nat} {h0 : rz_H} (w0 : Wf rb dr jd h0) {h : rz_H} {N : Nat} {t : Nat → Nat} {L ms p : Nat} {c : CC} {n v : Nat} {W : List Nat} {op : Nat} (s : MS h0 h N t L ms p c n (v :: W) (op + 1)) (hW : W.length < 250) (hp : p < 900) (x y : Int32) (d : Nat) : rW d 62 (59, (0, 0), [some (rz_r (some 109)), some (rz_i x), some (rz_i y)], [], h) = rW d 62 (8, (0, 0), [some (rz_r (some 109)), some (rz_i x), some (rz_i y)], [], setI (setI (setI h 109 11 (nI W.length)) 109 9 (nI op)) 109 5 (nI (p + 1))) := by
  have w : Wf rb dr jd h := w0.e s.1.1
  have e11 : hI h 109 11 = nI (W.length + 1) := s.2.2.2.2.1.trans (by rw [List.length_cons])
  have e9 := s.2.2.2.2.2.2
  have e5 := s.2.1.2.2.2.1
  have u : nI (W.length + 1) - 1 = nI W.length := nI_sub (b := 1) (by omega)
  have u2 : nI (op + 1) - 1 = nI op := nI_sub (b := 1) (by omega)
  rw [X62_59]
  simp (disch := omega) only [↓cd_d, ↓irem_eq_mod, ↓ob_setI, ↓ob_chI, ↓ob_some, bI_some, bV_some, bR_some, bL_some, ob_some, cd_t, cd_f, okO_setI, okA_setI, okL_setI, aLen_setI, hR_setI, hI_setI, Bool.true_and, Bool.and_true, Bool.and_self, Option.isNone_some, Option.isSome_some, Option.isNone_none, Option.isSome_none, okO_chI, okA_chI, okL_chI, aLen_chI, hR_chI, ↓reduceIte, not_true_eq_false, not_false_eq_true, eq_self, c10, Nat.zero_add, nI_add, litA, litB, litM, nI_mul, nI_leI, nI_ltI, nI_eq, litLe, litLe2, litLt, litLt2, litEq, litEq2, in_nI, lit_in, nI_clamp, lit_cl, if_pos, if_neg, ↓WMb w, WMd w, e11, e9, e5, u, u2, X62_65, X62_71, X62_77, X62_93]
theorem pn_a (so po : Option Nat) (n : Nat) : pnO po n + (fWM (so, none)).length = n + (fWM (so, po)).length := by
  cases so <;> cases po <;> rfl
theorem pn_b (so po : Option Nat) (n : Nat) : pnO so (pnO po n) = n + (fWM (so, po)).length := by
  cases so <;> cases po <;> rfl
theorem pn_c (so : Option Nat) (s : Nat) : (fWM (so, some s)).length = (fWM (so, none)).length + 1 := by
  cases so <;> rfl
theorem pn_d (so po : Option Nat) : (fWM (so, none)).length ≤ (fWM (so, po)).length := by
  cases so <;> cases po <;> simp [fWM, oWM]
theorem K62l {rb dr : Nat} {jd : Option Nat} {h0 : rz_H} (w0 : Wf rb dr jd h0) {N : Nat} {t : Nat → Nat} {L ms : Nat} {W0 : List Nat} {K o0 : Nat} (hb : ∀ i, i < L → t i < 256) (hL : L ≤ 240) (hW : TpO W0) (d : Nat) : ∀ k p c n fr m g h j2, L - p ≤ k → QSm h0 h N t L ms W0 K o0 p c n fr m g → ∃ h', (∃ e, aF t L fr g m p c n = Sum.inl e ∧ rW (d + 4) 62 (8, (0, 0), [some (rz_r (some 109)), some (rz_i (nI W0.length)), j2], [], h) = some (rz_i 0, h') ∧ ME ms h0 h' e) ∨ (∃ q, aF t L fr g m p c n = Sum.inr q ∧ rW (d + 4) 62 (8, (0, 0), [some (rz_r (some 109)), some (rz_i (nI W0.length)), j2], [], h) = some (rz_i 1, h') ∧ MS h0 h' N t L ms q.1 q.2.1 q.2.2 W0 o0 ∧ ms + q.2.2 + K ≤ q.1 ∧ p ≤ q.1 ∧ q.1 ≤ L) := by
  intro k
  induction k using Nat.strongRecOn with
  | _ k ih =>
    intro p c n fr m g h j2 hk q
    obtain ⟨so, po⟩ := m
    obtain ⟨s, q1, q2, q3, q4, q5, q6⟩ := q
    have w : Wf rb dr jd h := w0.e s.1.1
    have hX : TpO (fSM fr ++ W0) := by
      cases fr with
      | nil => exact hW
      | cons m' r => exact Or.inr ⟨1048576 * 14, _, rfl, by decide⟩
    have hl : (fSM fr ++ W0).length ≤ 240 := by
      rw [List.length_append]
      omega
    by_cases sg : p < L ∧ (addT (t p) = true ∨ mulT (t p) = true)
    · have nxt : ∀ h1 c1 n1 so1 po1 W1, aF t L fr g (so, po) p c n = cbd (fcG t L g (p + 1) c1 n1) (aF t L fr g (so1, po1)) → MS h0 h1 N t L ms p c1 n1 W1 (o0 + fr.length) → 1048576 * sgN (t p) :: W1 = fWM (so1, po1) ++ (fSM fr ++ W0) → FOk (so1, po1) → n1 + (fWM (so1, po1)).length = n + (fWM (so, po)).length + 1 → (fWM (so1, po1)).length ≤ (fWM (so, po)).length + 1 → rW (d + 4) 62 (8, (0, 0), [some (rz_r (some 109)), some (rz_i (nI W0.length)), j2], [], h) = rW (d + 4) 62 (23, (0, 0), [some (rz_r (some 109)), some (rz_i (nI W0.length)), some (rz_i (nI (sgN (t p))))], [], h1) → ∃ h', (∃ e, aF t L fr g (so, po) p c n = Sum.inl e ∧ rW (d + 4) 62 (8, (0, 0), [some (rz_r (some 109)), some (rz_i (nI W0.length)), j2], [], h) = some (rz_i 0, h') ∧ ME ms h0 h' e) ∨ (∃ q, aF t L fr g (so, po) p c n = Sum.inr q ∧ rW (d + 4) 62 (8, (0, 0), [some (rz_r (some 109)), some (rz_i (nI W0.length)), j2], [], h) = some (rz_i 1, h') ∧ MS h0 h' N t L ms q.1 q.2.1 q.2.2 W0 o0 ∧ ms + q.2.2 + K ≤ q.1 ∧ p ≤ q.1 ∧ q.1 ≤ L) := by
        intro h1 c1 n1 so1 po1 W1 ea s1 ew fo n1e wl e1
        have lw : W1.length + 1 = (fWM (so1, po1)).length + ((fSM fr).length + W0.length) := by
          rw [← List.length_append, ← List.length_append, ← ew, List.length_cons]
        have s2 := s1.pu (by omega) (v := 1048576 * sgN (t p)) (by have := sgN_le (t p); omega)
        have e2 := K62p w0 s1 (by omega) (by omega) (nI W0.length) (sgN (t p)) (d + 4)
        rw [ew] at s2
        obtain ⟨h3, o⟩ := K60 w0 (K := K) (o0 := o0) hb hL d ⟨s2, q1, fo, q3, by omega, by omega, by omega⟩
        have w2 : Wf rb dr jd (setI (setI (setI h1 115 W1.length (nI (1048576 * sgN (t p)))) 109 11 (nI (W1.length + 1))) 109 5 (nI (p + 1))) := w0.e s2.1.1
        rw [e1, e2, ea, X62_43]
        generalize (setI (setI (setI h1 115 W1.length (nI (1048576 * sgN (t p)))) 109 11 (nI (W1.length + 1))) 109 5 (nI (p + 1))) = h2 at *
        rcases o with ⟨e, o1, o2, o3⟩ | ⟨p', c', n', fr', m', g', o1, o2, o3, o4⟩
        · refine ⟨h3, Or.inl ⟨e, o1, ?_, o3⟩⟩
          simp only [bI_some, bV_some, bR_some, bL_some, ob_some, cd_t, cd_f, cd_d, okO_setI, okA_setI, okL_setI, aLen_setI, hR_setI, hI_setI, Bool.true_and, Bool.and_true, Bool.and_self, Option.isNone_some, Option.isSome_some, Option.isNone_none, Option.isSome_none, okO_chI, okA_chI, okL_chI, aLen_chI, hR_chI, ↓reduceIte, not_true_eq_false, not_false_eq_true, eq_self, c10, WMd w2, o2, X62_46]
        · obtain ⟨h4, r⟩ := ih (L - p') (by have := sg.1; omega) p' c' n' fr' m' g' h3 (some (rz_i (nI (sgN (t p))))) (Nat.le_refl _) o3
          refine ⟨h4, ?_⟩
          rw [o1]
          simp only [bI_some, bV_some, bR_some, bL_some, ob_some, cd_t, cd_f, cd_d, okO_setI, okA_setI, okL_setI, aLen_setI, hR_setI, hI_setI, Bool.true_and, Bool.and_true, Bool.and_self, Option.isNone_some, Option.isSome_some, Option.isNone_none, Option.isSome_none, okO_chI, okA_chI, okL_chI, aLen_chI, hR_chI, ↓reduceIte, not_true_eq_false, not_false_eq_true, eq_self, c10, WMd w2, o2, X62_93]
          rcases r with r | ⟨q, r1, r2, r3, r4, r5, r6⟩
          · exact Or.inl r
          · exact Or.inr ⟨q, r1, r2, r3, r4, by omega, r6⟩
      by_cases mu : mulT (t p) = true
      · obtain ⟨h1, e1, s1⟩ := K59p w0 q2 hX hl s (by omega) (d + 2)
        refine nxt h1 _ _ so (some (t p)) _ (aF_m hL fr g so po c n sg.1 mu) s1 (by cases so <;> rfl) ⟨q2.1, fun y hy => by cases hy; exact mu⟩ (by rw [pn_c, ← pn_a so po n]; omega) (by rw [pn_c]; have := pn_d so po; omega) ?_
        have e1 : cW (d + 4) 59 [rz_r (some 109), rz_i 0] h = some (rz_i 0, h1) := e1
        rw [X62_8]
        simp only [bI_some, bV_some, bR_some, bL_some, ob_some, cd_t, cd_f, cd_d, okO_setI, okA_setI, okL_setI, aLen_setI, hR_setI, hI_setI, Bool.true_and, Bool.and_true, Bool.and_self, Option.isNone_some, Option.isSome_some, Option.isNone_none, Option.isSome_none, okO_chI, okA_chI, okL_chI, aLen_chI, hR_chI, ↓reduceIte, not_true_eq_false, not_false_eq_true, eq_self, c10, WMd w, K49 w s.2.1, K58 (hb p), if_pos sg, X62_12, sgN_n, X62_15, sgN_m mu, e1]
      · have ad : addT (t p) = true := sg.2.resolve_right mu
        obtain ⟨h1, e1, s1⟩ := K59s w0 q2 hX hl s (by omega) (d + 2)
        refine nxt h1 _ _ (some (t p)) none _ (aF_a hL fr g so po c n sg.1 ad) s1 rfl ⟨fun y hy => by cases hy; exact ad, fun y hy => absurd hy (by simp)⟩ (by rw [pn_b]; rfl) (by show 1 ≤ _; omega) ?_
        have e1 : cW (d + 4) 59 [rz_r (some 109), rz_i 1] h = some (rz_i 0, h1) := e1
        rw [X62_8]
        simp only [bI_some, bV_some, bR_some, bL_some, ob_some, cd_t, cd_f, cd_d, okO_setI, okA_setI, okL_setI, aLen_setI, hR_setI, hI_setI, Bool.true_and, Bool.and_true, Bool.and_self, Option.isNone_some, Option.isSome_some, Option.isNone_none, Option.isSome_none, okO_chI, okA_chI, okL_chI, aLen_chI, hR_chI, ↓reduceIte, not_true_eq_false, not_false_eq_true, eq_self, c10, WMd w, K49 w s.2.1, K58 (hb p), if_pos sg, X62_12, sgN_n, X62_15, sgN_a ad, e1]
    · have st : rW (d + 4) 62 (8, (0, 0), [some (rz_r (some 109)), some (rz_i (nI W0.length)), j2], [], h) = rW (d + 4) 62 (48, (0, 0), [some (rz_r (some 109)), some (rz_i (nI W0.length)), some (rz_i (-1))], [], h) := by
        rw [X62_8]
        simp only [bI_some, bV_some, bR_some, bL_some, ob_some, cd_t, cd_f, cd_d, okO_setI, okA_setI, okL_setI, aLen_setI, hR_setI, hI_setI, Bool.true_and, Bool.and_true, Bool.and_self, Option.isNone_some, Option.isSome_some, Option.isNone_none, Option.isSome_none, okO_chI, okA_chI, okL_chI, aLen_chI, hR_chI, ↓reduceIte, not_true_eq_false, not_false_eq_true, eq_self, c10, WMd w, K49 w s.2.1, K58 (hb p), if_neg sg, X62_12]
      have e61 := fun d => K61 w0 q2 s (by omega) d
      have pe := pkk_eq (t := t) (L := L) (p := p) (m := 93) (hb p) (by omega)
      rw [st]
      cases fr with
      | nil =>
        have e61 : ∀ d, cW (d + 1) 61 [rz_r (some 109), rz_i (nI W0.length)] h = some (rz_i 0, h) := e61
        obtain ⟨h1, e1, s1⟩ := K59s w0 q2 hX hl s (by omega) (d + 2)
        have e1 : cW (d + 4) 59 [rz_r (some 109), rz_i 1] h = some (rz_i 0, h1) := e1
        have to78 : rW (d + 4) 62 (48, (0, 0), [some (rz_r (some 109)), some (rz_i (nI W0.length)), some (rz_i (-1))], [], h) = rW (d + 4) 62 (78, (0, 0), [some (rz_r (some 109)), some (rz_i (nI W0.length)), some (rz_i (-1))], [], h) := by
          rw [X62_48]
          by_cases z : pkI t L p = 93
          · simp only [bI_some, bV_some, bR_some, bL_some, ob_some, cd_t, cd_f, cd_d, okO_setI, okA_setI, okL_setI, aLen_setI, hR_setI, hI_setI, Bool.true_and, Bool.and_true, Bool.and_self, Option.isNone_some, Option.isSome_some, Option.isNone_none, Option.isSome_none, okO_chI, okA_chI, okL_chI, aLen_chI, hR_chI, ↓reduceIte, not_true_eq_false, not_false_eq_true, eq_self, c10, WMd w, K49 w s.2.1, z, X62_52, e61]
          · simp only [bI_some, bV_some, bR_some, bL_some, ob_some, cd_t, cd_f, cd_d, okO_setI, okA_setI, okL_setI, aLen_setI, hR_setI, hI_setI, Bool.true_and, Bool.and_true, Bool.and_self, Option.isNone_some, Option.isSome_some, Option.isNone_none, Option.isSome_none, okO_chI, okA_chI, okL_chI, aLen_chI, hR_chI, ↓reduceIte, not_true_eq_false, not_false_eq_true, eq_self, c10, WMd w, K49 w s.2.1, z]
        refine ⟨h1, Or.inr ⟨_, aF_z g so po c n sg, ?_, s1, ?_, Nat.le_refl _, q6⟩⟩
        · rw [to78, X62_78]
          simp only [bI_some, bV_some, bR_some, bL_some, ob_some, cd_t, cd_f, cd_d, okO_setI, okA_setI, okL_setI, aLen_setI, hR_setI, hI_setI, Bool.true_and, Bool.and_true, Bool.and_self, Option.isNone_some, Option.isSome_some, Option.isNone_none, Option.isSome_none, okO_chI, okA_chI, okL_chI, aLen_chI, hR_chI, ↓reduceIte, not_true_eq_false, not_false_eq_true, eq_self, c10, WMd w, e61, X62_88, e1, X62_91]
        · show ms + pnO so (pnO po n) + K ≤ p
          rw [pn_b]
          omega
      | cons m' r =>
        have e61 : ∀ d, cW (d + 1) 61 [rz_r (some 109), rz_i (nI W0.length)] h = some (rz_i 1, h) := e61
        by_cases z : p < L ∧ t p = 93
        · have zp : pkI t L p = 93 := pe.mpr z
          obtain ⟨h1, e1, s1⟩ := K59s w0 q2 hX hl s (by omega) (d + 2)
          have e1 : cW (d + 4) 59 [rz_r (some 109), rz_i 1] h = some (rz_i 0, h1) := e1
          have ln : (fSM (m' :: r)).length = (fWM m').length + (fSM r).length + 1 := by
            show (1048576 * 14 :: (fWM m' ++ fSM r)).length = _
            rw [List.length_cons, List.length_append]
          have s1 : MS h0 h1 N t L ms p (pcO so (pcO po c n) (pnO po n)) (pnO so (pnO po n)) (1048576 * 14 :: (fWM m' ++ (fSM r ++ W0))) (o0 + r.length + 1) := by
            rw [← List.append_assoc]
            exact s1
          have s2 := s1.cl (by omega)
          have e2 := K62k w0 s1 (by rw [List.length_append, List.length_append]; omega) (by omega) (nI W0.length) (-1) (d + 4)
          have st2 : rW (d + 4) 62 (48, (0, 0), [some (rz_r (some 109)), some (rz_i (nI W0.length)), some (rz_i (-1))], [], h) = rW (d + 4) 62 (59, (0, 0), [some (rz_r (some 109)), some (rz_i (nI W0.length)), some (rz_i (-1))], [], h1) := by
            rw [X62_48]
            simp only [bI_some, bV_some, bR_some, bL_some, ob_some, cd_t, cd_f, cd_d, okO_setI, okA_setI, okL_setI, aLen_setI, hR_setI, hI_setI, Bool.true_and, Bool.and_true, Bool.and_self, Option.isNone_some, Option.isSome_some, Option.isNone_none, Option.isSome_none, okO_chI, okA_chI, okL_chI, aLen_chI, hR_chI, ↓reduceIte, not_true_eq_false, not_false_eq_true, eq_self, c10, WMd w, K49 w s.2.1, zp, X62_52, e61, X62_56, e1]
          rw [List.length_cons] at q1
          obtain ⟨h4, o⟩ := ih (L - (p + 1)) (by omega) (p + 1) _ _ r m' (g + 1) _ (some (rz_i (-1))) (Nat.le_refl _) ⟨s2, by omega, q3 m' (List.mem_cons_self ..), fun x hx => q3 x (List.mem_cons_of_mem _ hx), by rw [pn_b]; omega, by omega, by omega⟩
          refine ⟨h4, ?_⟩
          rw [aF_k m' r g so po c n z.1 z.2, st2, e2]
          rcases o with o | ⟨q, r1, r2, r3, r4, r5, r6⟩
          · exact Or.inl o
          · exact Or.inr ⟨q, r1, r2, r3, r4, by omega, r6⟩
        · have zp : ¬ pkI t L p = 93 := fun y => z (pe.mp y)
          have k51 := fun d => K51 w 1 p d
          rw [show nI 1 = (1 : Int32) from rfl] at k51
          refine ⟨_, Or.inl ⟨_, aF_w m' r g so po c n sg z, ?_, s.wr 1 p⟩⟩
          rw [X62_48]
          simp only [bI_some, bV_some, bR_some, bL_some, ob_some, cd_t, cd_f, cd_d, okO_setI, okA_setI, okL_setI, aLen_setI, hR_setI, hI_setI, Bool.true_and, Bool.and_true, Bool.and_self, Option.isNone_some, Option.isSome_some, Option.isNone_none, Option.isSome_none, okO_chI, okA_chI, okL_chI, aLen_chI, hR_chI, ↓reduceIte, not_true_eq_false, not_false_eq_true, eq_self, c10, WMd w, K49 w s.2.1, zp, X62_78, e61, X62_82, s.2.1.2.2.2.1, k51]
          rfl
/-- the model reads a sum as the pure reader does -/
theorem K62 {rb dr : Nat} {jd : Option Nat} {h0 : rz_H} (w0 : Wf rb dr jd h0) {N : Nat} {t : Nat → Nat} {L ms : Nat} {W0 : List Nat} {K o0 : Nat} (hb : ∀ i, i < L → t i < 256) (hL : L ≤ 240) (hW : TpO W0) {g p : Nat} {c : CC} {n : Nat} {h : rz_H} (s : MS h0 h N t L ms p c n W0 o0) (hg : o0 + g = 6) (hK : ms + n + K ≤ p) (hl : W0.length ≤ p) (hp : p ≤ L) (d : Nat) : ∃ h', (∃ e, sumT t L (fcG t L g) p c n = Sum.inl e ∧ cW (d + 5) 62 [rz_r (some 109)] h = some (rz_i 0, h') ∧ ME ms h0 h' e) ∨ (∃ q, sumT t L (fcG t L g) p c n = Sum.inr q ∧ cW (d + 5) 62 [rz_r (some 109)] h = some (rz_i 1, h') ∧ MS h0 h' N t L ms q.1 q.2.1 q.2.2 W0 o0 ∧ ms + q.2.2 + K ≤ q.1 ∧ p < q.1 ∧ q.1 ≤ L) := by
  have w : Wf rb dr jd h := w0.e s.1.1
  have q : QSm h0 h N t L ms W0 K o0 p c n [] (none, none) g := ⟨s, hg, ⟨fun y hy => absurd hy (by simp), fun y hy => absurd hy (by simp)⟩, fun x hx => absurd hx (by simp), hK, by show 0 + 0 + W0.length ≤ p; omega, hp⟩
  have e11 := s.2.2.2.2.1
  obtain ⟨h3, o⟩ := K60 w0 hb hL d q
  rw [sum_aF, X62]
  simp only [bI_some, bV_some, bR_some, bL_some, ob_some, cd_t, cd_f, cd_d, okO_setI, okA_setI, okL_setI, aLen_setI, hR_setI, hI_setI, Bool.true_and, Bool.and_true, Bool.and_self, Option.isNone_some, Option.isSome_some, Option.isNone_none, Option.isSome_none, okO_chI, okA_chI, okL_chI, aLen_chI, hR_chI, ↓reduceIte, not_true_eq_false, not_false_eq_true, eq_self, c10, WMd w, e11, X62_3]
  rcases o with ⟨e, o1, o2, o3⟩ | ⟨p', c', n', fr', m', g', o1, o2, o3, o4⟩
  · refine ⟨h3, Or.inl ⟨e, o1, ?_, o3⟩⟩
    simp only [bI_some, bV_some, bR_some, bL_some, ob_some, cd_t, cd_f, cd_d, okO_setI, okA_setI, okL_setI, aLen_setI, hR_setI, hI_setI, Bool.true_and, Bool.and_true, Bool.and_self, Option.isNone_some, Option.isSome_some, Option.isNone_none, Option.isSome_none, okO_chI, okA_chI, okL_chI, aLen_chI, hR_chI, ↓reduceIte, not_true_eq_false, not_false_eq_true, eq_self, c10, WMd w, o2, X62_6]
  · obtain ⟨h4, r⟩ := K62l w0 hb hL hW d _ p' c' n' fr' m' g' h3 none (Nat.le_refl _) o3
    refine ⟨h4, ?_⟩
    rw [o1]
    simp only [bI_some, bV_some, bR_some, bL_some, ob_some, cd_t, cd_f, cd_d, okO_setI, okA_setI, okL_setI, aLen_setI, hR_setI, hI_setI, Bool.true_and, Bool.and_true, Bool.and_self, Option.isNone_some, Option.isSome_some, Option.isNone_none, Option.isSome_none, okO_chI, okA_chI, okL_chI, aLen_chI, hR_chI, ↓reduceIte, not_true_eq_false, not_false_eq_true, eq_self, c10, WMd w, o2]
    rcases r with r | ⟨q, r1, r2, r3, r4, r5, r6⟩
    · exact Or.inl r
    · exact Or.inr ⟨q, r1, r2, r3, r4, by omega, r6⟩
