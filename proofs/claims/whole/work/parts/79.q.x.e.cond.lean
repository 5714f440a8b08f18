/-! the law's text: the model's condition -/
theorem K67c {rb dr : Nat} {jd : Option Nat} {h0 : rz_H} (w0 : Wf rb dr jd h0) {h : rz_H} {N : Nat} {t : Nat → Nat} {L ms p : Nat} {c : CC} {n v : Nat} {W : List Nat} {op : Nat} (s : MS h0 h N t L ms p c n (v :: W) (op + 1)) (hW : W.length < 250) (hp : p < 900) (d : Nat) : rW d 67 (54, (0, 0), [some (rz_r (some 109))], [], h) = rW d 67 (72, (0, 0), [some (rz_r (some 109))], [], setI (setI (setI h 109 11 (nI W.length)) 109 9 (nI op)) 109 5 (nI (p + 1))) := by
  have w : Wf rb dr jd h := w0.e s.1.1
  have e11 : hI h 109 11 = nI (W.length + 1) := s.2.2.2.2.1.trans (by rw [List.length_cons])
  have e9 := s.2.2.2.2.2.2
  have e5 := s.2.1.2.2.2.1
  have u : nI (W.length + 1) - 1 = nI W.length := nI_sub (b := 1) (by omega)
  have u2 : nI (op + 1) - 1 = nI op := nI_sub (b := 1) (by omega)
  rw [X67_54]
  simp (disch := omega) only [↓cd_d, ↓irem_eq_mod, ↓ob_setI, ↓ob_chI, ↓ob_some, bI_some, bV_some, bR_some, bL_some, ob_some, cd_t, cd_f, okO_setI, okA_setI, okL_setI, aLen_setI, hR_setI, hI_setI, Bool.true_and, Bool.and_true, Bool.and_self, Option.isNone_some, Option.isSome_some, Option.isNone_none, Option.isSome_none, okO_chI, okA_chI, okL_chI, aLen_chI, hR_chI, ↓reduceIte, not_true_eq_false, not_false_eq_true, eq_self, c10, Nat.zero_add, nI_add, litA, litB, litM, nI_mul, nI_leI, nI_ltI, nI_eq, litLe, litLe2, litLt, litLt2, litEq, litEq2, in_nI, lit_in, nI_clamp, lit_cl, if_pos, if_neg, ↓WMb w, WMd w, e11, e9, e5, u, u2, X67_60, X67_66]
theorem bo_ne {ms : Nat} : ∀ r : List TFR, bOM r → 0 < (tSM ms r).length
  | [], h => absurd h id
  | none :: r, _ => by
    show 0 < (1048576 * 10 :: tSM ms r).length
    rw [List.length_cons]
    omega
  | some m :: r, _ => by
    show 0 < (jWM 11 ms m.2 ++ (jWM 12 ms m.1 ++ (1048576 * 13 :: tSM ms r))).length
    rw [List.length_append, List.length_append, List.length_cons]
    omega
/-- what the condition's rest comes to -/
def TR (h0 : rz_H) (N : Nat) (t : Nat → Nat) (L ms p : Nat) (R : RC) (u : Option rz_Res) : Prop := ∃ h', (∃ e, R = Sum.inl e ∧ u = some (rz_i 0, h') ∧ ME ms h0 h' e) ∨ (∃ q, R = Sum.inr q ∧ u = some (rz_i 1, h') ∧ MS h0 h' N t L ms q.1 q.2.1 q.2.2 [] 0 ∧ ms + q.2.2 ≤ q.1 ∧ p ≤ q.1 ∧ q.1 ≤ L)
theorem TR.le {h0 : rz_H} {N : Nat} {t : Nat → Nat} {L ms p p' : Nat} {R R' : RC} {u u' : Option rz_Res} (h : TR h0 N t L ms p R u) (hp : p' ≤ p) (e : R' = R) (e2 : u' = u) : TR h0 N t L ms p' R' u' := by
  subst e
  subst e2
  obtain ⟨h', h | ⟨q, a, b, c, d, e, f⟩⟩ := h
  · exact ⟨h', Or.inl h⟩
  · exact ⟨h', Or.inr ⟨q, a, b, c, d, by omega, f⟩⟩
theorem K67l {rb dr : Nat} {jd : Option Nat} {h0 : rz_H} (w0 : Wf rb dr jd h0) {N : Nat} {t : Nat → Nat} {L ms : Nat} (hb : ∀ i, i < L → t i < 256) (hL : L ≤ 240) (d : Nat) : ∀ k, (∀ p c n fr g h, L - p ≤ k → TQ h0 h N t L ms p c n fr g → TR h0 N t L ms p (cbd (tsG t L g p c n) (aT t L fr g)) (rW (d + 6) 67 (22, (0, 0), [some (rz_r (some 109))], [], h))) ∧ (∀ p c n m r g h, L - p ≤ k → TQ h0 h N t L ms p c n (some m :: r) g → TR h0 N t L ms p (aT t L (some m :: r) g p c n) (rW (d + 6) 67 (47, (0, 0), [some (rz_r (some 109))], [], h))) := by
  intro k
  induction k using Nat.strongRecOn with
  | _ k ih =>
    constructor
    · intro p c n fr g h hk q
      have q' := q
      obtain ⟨s, q1, q2, q3, q4, q5, q6⟩ := q
      have w : Wf rb dr jd h := w0.e s.1.1
      have p33 := pkk_eq (t := t) (L := L) (p := p) (m := 33) (hb p) (by omega)
      have p40 := pkk_eq (t := t) (L := L) (p := p) (m := 40) (hb p) (by omega)
      by_cases z : p < L ∧ (t p = 33 ∨ t p = 40)
      · have st : rW (d + 6) 67 (22, (0, 0), [some (rz_r (some 109))], [], h) = rW (d + 6) 67 (30, (0, 0), [some (rz_r (some 109))], [], h) := by
          rw [X67_22]
          by_cases y : pkI t L p = 33
          · simp only [bI_some, bV_some, bR_some, bL_some, ob_some, cd_t, cd_f, cd_d, okO_setI, okA_setI, okL_setI, aLen_setI, hR_setI, hI_setI, Bool.true_and, Bool.and_true, Bool.and_self, Option.isNone_some, Option.isSome_some, Option.isNone_none, Option.isSome_none, okO_chI, okA_chI, okL_chI, aLen_chI, hR_chI, ↓reduceIte, not_true_eq_false, not_false_eq_true, eq_self, c10, WMd w, K49 w s.2.1, y]
          · have y2 : pkI t L p = 40 := p40.mpr ⟨z.1, z.2.resolve_left fun e => y (p33.mpr ⟨z.1, e⟩)⟩
            have l1 : ¬ (40 : Int32) = 33 := by decide
            simp only [bI_some, bV_some, bR_some, bL_some, ob_some, cd_t, cd_f, cd_d, okO_setI, okA_setI, okL_setI, aLen_setI, hR_setI, hI_setI, Bool.true_and, Bool.and_true, Bool.and_self, Option.isNone_some, Option.isSome_some, Option.isNone_none, Option.isSome_none, okO_chI, okA_chI, okL_chI, aLen_chI, hR_chI, ↓reduceIte, not_true_eq_false, not_false_eq_true, eq_self, c10, WMd w, K49 w s.2.1, y2, l1, X67_26]
        cases g with
        | zero =>
          rw [show fr.length = 6 by omega] at s
          rw [tsG_0 c n z, st]
          by_cases y : t p = 33
          · have yp : pkI t L p = 33 := p33.mpr ⟨z.1, y⟩
            obtain ⟨h1, e1, m1⟩ := s.on w0 10 (d + 4)
            have e1 : cW (d + 6) 55 [rz_r (some 109), rz_i 10] h = some (rz_i 0, h1) := e1
            refine ⟨h1, Or.inl ⟨(5, p), rfl, ?_, m1⟩⟩
            rw [X67_30]
            simp only [bI_some, bV_some, bR_some, bL_some, ob_some, cd_t, cd_f, cd_d, okO_setI, okA_setI, okL_setI, aLen_setI, hR_setI, hI_setI, Bool.true_and, Bool.and_true, Bool.and_self, Option.isNone_some, Option.isSome_some, Option.isNone_none, Option.isSome_none, okO_chI, okA_chI, okL_chI, aLen_chI, hR_chI, ↓reduceIte, not_true_eq_false, not_false_eq_true, eq_self, c10, WMd w, K49 w s.2.1, yp, e1, X67_40]
          · have yp : ¬ pkI t L p = 33 := fun e => y (p33.mp e).2
            obtain ⟨h1, e1, m1⟩ := s.on w0 13 (d + 4)
            have e1 : cW (d + 6) 55 [rz_r (some 109), rz_i 13] h = some (rz_i 0, h1) := e1
            refine ⟨h1, Or.inl ⟨(5, p), rfl, ?_, m1⟩⟩
            rw [X67_30]
            simp only [bI_some, bV_some, bR_some, bL_some, ob_some, cd_t, cd_f, cd_d, okO_setI, okA_setI, okL_setI, aLen_setI, hR_setI, hI_setI, Bool.true_and, Bool.and_true, Bool.and_self, Option.isNone_some, Option.isSome_some, Option.isNone_none, Option.isSome_none, okO_chI, okA_chI, okL_chI, aLen_chI, hR_chI, ↓reduceIte, not_true_eq_false, not_false_eq_true, eq_self, c10, WMd w, K49 w s.2.1, yp, e1, X67_40]
        | succ g =>
          rw [st]
          by_cases y : t p = 33
          · have yp : pkI t L p = 33 := p33.mpr ⟨z.1, y⟩
            obtain ⟨h1, e1, s1⟩ := s.op w0 (by omega) (by omega) (by omega) (k := 10) (by omega) (d + 5)
            have e1 : cW (d + 6) 55 [rz_r (some 109), rz_i 10] h = some (rz_i 1, h1) := e1
            have o := (ih (L - (p + 1)) (by omega)).1 (p + 1) c n (none :: fr) g h1 (Nat.le_refl _) ⟨s1, by rw [List.length_cons]; omega, fun m hm => q2 m (by simpa using hm), q3, by show ms + n + (nBM fr + 1) ≤ p + 1; omega, by show (tSM ms fr).length + 1 ≤ p + 1; omega, by omega⟩
            refine o.le (by omega) (tsG_n fr g c n ⟨z.1, y⟩) ?_
            rw [X67_30]
            simp only [bI_some, bV_some, bR_some, bL_some, ob_some, cd_t, cd_f, cd_d, okO_setI, okA_setI, okL_setI, aLen_setI, hR_setI, hI_setI, Bool.true_and, Bool.and_true, Bool.and_self, Option.isNone_some, Option.isSome_some, Option.isNone_none, Option.isSome_none, okO_chI, okA_chI, okL_chI, aLen_chI, hR_chI, ↓reduceIte, not_true_eq_false, not_false_eq_true, eq_self, c10, WMd w, K49 w s.2.1, yp, e1]
          · have yp : ¬ pkI t L p = 33 := fun e => y (p33.mp e).2
            obtain ⟨h1, e1, s1⟩ := s.op w0 (by omega) (by omega) (by omega) (k := 13) (by omega) (d + 5)
            have e1 : cW (d + 6) 55 [rz_r (some 109), rz_i 13] h = some (rz_i 1, h1) := e1
            have tk : TOk c n (some (none, none) :: fr) := fun m hm => by
              rcases List.mem_cons.mp hm with e | hm
              · cases e
                exact ⟨fun j hj => absurd hj (by simp), fun j hj => absurd hj (by simp)⟩
              · exact q2 m hm
            have o := (ih (L - (p + 1)) (by omega)).1 (p + 1) c n (some (none, none) :: fr) g h1 (Nat.le_refl _) ⟨s1, by rw [List.length_cons]; omega, tk, Or.inr q3, by show ms + n + nBM fr ≤ p + 1; omega, by show (tSM ms fr).length + 1 ≤ p + 1; omega, by omega⟩
            refine o.le (by omega) (tsG_o fr g c n ⟨z.1, z.2.resolve_left y⟩) ?_
            rw [X67_30]
            simp only [bI_some, bV_some, bR_some, bL_some, ob_some, cd_t, cd_f, cd_d, okO_setI, okA_setI, okL_setI, aLen_setI, hR_setI, hI_setI, Bool.true_and, Bool.and_true, Bool.and_self, Option.isNone_some, Option.isSome_some, Option.isNone_none, Option.isSome_none, okO_chI, okA_chI, okL_chI, aLen_chI, hR_chI, ↓reduceIte, not_true_eq_false, not_false_eq_true, eq_self, c10, WMd w, K49 w s.2.1, yp, e1]
      · have y1 : ¬ pkI t L p = 33 := fun e => z ⟨(p33.mp e).1, Or.inl (p33.mp e).2⟩
        have y2 : ¬ pkI t L p = 40 := fun e => z ⟨(p40.mp e).1, Or.inr (p40.mp e).2⟩
        have st : rW (d + 6) 67 (22, (0, 0), [some (rz_r (some 109))], [], h) = rW (d + 6) 67 (42, (0, 0), [some (rz_r (some 109))], [], h) := by
          rw [X67_22]
          simp only [bI_some, bV_some, bR_some, bL_some, ob_some, cd_t, cd_f, cd_d, okO_setI, okA_setI, okL_setI, aLen_setI, hR_setI, hI_setI, Bool.true_and, Bool.and_true, Bool.and_self, Option.isNone_some, Option.isSome_some, Option.isNone_none, Option.isSome_none, okO_chI, okA_chI, okL_chI, aLen_chI, hR_chI, ↓reduceIte, not_true_eq_false, not_false_eq_true, eq_self, c10, WMd w, K49 w s.2.1, y1, X67_26, y2]
        obtain ⟨h1, o⟩ := K66 w0 hb hL q' d
        rw [tsG_c g c n z, st, X67_42]
        rcases o with ⟨e, o1, o2, o3⟩ | ⟨p', c', n', m, r, g', o1, o2, o3, o4⟩
        · refine ⟨h1, Or.inl ⟨e, o1, ?_, o3⟩⟩
          simp only [bI_some, bV_some, bR_some, bL_some, ob_some, cd_t, cd_f, cd_d, okO_setI, okA_setI, okL_setI, aLen_setI, hR_setI, hI_setI, Bool.true_and, Bool.and_true, Bool.and_self, Option.isNone_some, Option.isSome_some, Option.isNone_none, Option.isSome_none, okO_chI, okA_chI, okL_chI, aLen_chI, hR_chI, ↓reduceIte, not_true_eq_false, not_false_eq_true, eq_self, c10, WMd w, o2, X67_45]
        · have pl := o3.2.2.2.2.2.2
          have o := (ih (L - p') (by omega)).2 p' c' n' m r g' h1 (Nat.le_refl _) o3
          refine o.le (by omega) o1 ?_
          simp only [bI_some, bV_some, bR_some, bL_some, ob_some, cd_t, cd_f, cd_d, okO_setI, okA_setI, okL_setI, aLen_setI, hR_setI, hI_setI, Bool.true_and, Bool.and_true, Bool.and_self, Option.isNone_some, Option.isSome_some, Option.isNone_none, Option.isSome_none, okO_chI, okA_chI, okL_chI, aLen_chI, hR_chI, ↓reduceIte, not_true_eq_false, not_false_eq_true, eq_self, c10, WMd w, o2]
    · intro p c n m r g h hk q
      obtain ⟨oj, aj⟩ := m
      obtain ⟨s, q1, q2, q3, q4, q5, q6⟩ := q
      have w : Wf rb dr jd h := w0.e s.1.1
      have s : MS h0 h N t L ms p c n (jWM 11 ms aj ++ (jWM 12 ms oj ++ (1048576 * 13 :: tSM ms r))) (r.length + 1) := s
      rw [List.length_cons] at q1
      have q4 : ms + n + nBM r ≤ p := q4
      have q5 : (jWM 11 ms aj ++ (jWM 12 ms oj ++ (1048576 * 13 :: tSM ms r))).length ≤ p := q5
      rw [List.length_append, List.length_append, List.length_cons] at q5
      have jj : JOk c n 4 oj ∧ JOk c n 5 aj := q2 (oj, aj) (List.mem_cons_self ..)
      have tr : TOk c n r := fun m hm => q2 m (List.mem_cons_of_mem _ hm)
      obtain ⟨⟨ha, ea, sa⟩, ⟨ho, eo, so⟩⟩ := K64 w0 jj.1 jj.2 s (by omega) (by omega) (d + 4)
      have ea : cW (d + 6) 64 [rz_r (some 109), rz_i 0] h = some (rz_i 0, ha) := ea
      have eo : cW (d + 6) 64 [rz_r (some 109), rz_i 1] h = some (rz_i 0, ho) := eo
      have wa : Wf rb dr jd ha := w0.e sa.1.1
      have wo : Wf rb dr jd ho := w0.e so.1.1
      have p41 := pkk_eq (t := t) (L := L) (p := p) (m := 41) (hb p) (by omega)
      have p38 := pkk_eq (t := t) (L := L) (p := p) (m := 38) (hb p) (by omega)
      have p24 := pkk_eq (t := t) (L := L) (p := p) (m := 124) (hb p) (by omega)
      have ka := kp_a c aj (m := n) (by omega) n
      have ko := kp_a (aiO c aj n) oj (m := n) (by omega) n
      by_cases z : p < L ∧ t p = 41
      · have zp : pkI t L p = 41 := p41.mpr z
        have s1 := so.cl (by omega)
        have e1 := K67c w0 so (by omega) (by omega) (d + 6)
        have st : rW (d + 6) 67 (47, (0, 0), [some (rz_r (some 109))], [], h) = rW (d + 6) 67 (72, (0, 0), [some (rz_r (some 109))], [], setI (setI (setI ho 109 11 (nI (tSM ms r).length)) 109 9 (nI r.length)) 109 5 (nI (p + 1))) := by
          rw [← e1, X67_47]
          simp only [bI_some, bV_some, bR_some, bL_some, ob_some, cd_t, cd_f, cd_d, okO_setI, okA_setI, okL_setI, aLen_setI, hR_setI, hI_setI, Bool.true_and, Bool.and_true, Bool.and_self, Option.isNone_some, Option.isSome_some, Option.isNone_none, Option.isSome_none, okO_chI, okA_chI, okL_chI, aLen_chI, hR_chI, ↓reduceIte, not_true_eq_false, not_false_eq_true, eq_self, c10, WMd w, K49 w s.2.1, zp, X67_51, eo]
        have w1 : Wf rb dr jd (setI (setI (setI ho 109 11 (nI (tSM ms r).length)) 109 9 (nI r.length)) 109 5 (nI (p + 1))) := w0.e s1.1.1
        rw [st, aT_k (oj, aj) r g c n z, X67_72]
        generalize (setI (setI (setI ho 109 11 (nI (tSM ms r).length)) 109 9 (nI r.length)) 109 5 (nI (p + 1))) = h1 at *
        have e11 := s1.2.2.2.2.1
        rcases q3 with rfl | q3
        · have e11 : hI h1 109 11 = 0 := e11
          refine ⟨h1, Or.inr ⟨_, rfl, ?_, s1, by show ms + n ≤ p + 1; omega, by show p ≤ p + 1; omega, by show p + 1 ≤ L; omega⟩⟩
          simp only [bI_some, bV_some, bR_some, bL_some, ob_some, cd_t, cd_f, cd_d, okO_setI, okA_setI, okL_setI, aLen_setI, hR_setI, hI_setI, Bool.true_and, Bool.and_true, Bool.and_self, Option.isNone_some, Option.isSome_some, Option.isNone_none, Option.isSome_none, okO_chI, okA_chI, okL_chI, aLen_chI, hR_chI, ↓reduceIte, not_true_eq_false, not_false_eq_true, eq_self, c10, WMd w1, e11, X67_75]
        · have ne := bo_ne (ms := ms) r q3
          have n0 : ¬ nI (tSM ms r).length = (0 : Int32) := fun y => by
            have := (nI_eq (a := (tSM ms r).length) (b := 0) (by omega) (by omega)).mp y
            omega
          obtain ⟨h2, c', n', m', r', g', e2, o2, o3⟩ := K63 w0 hL (d + 4) r _ _ (g + 1) h1 ⟨s1, by omega, (tr.to (Nat.le_refl _) ka).to (Nat.le_refl _) ko, q3, by omega, by omega, by omega⟩
          have e2 : cW (d + 6) 63 [rz_r (some 109)] h1 = some (rz_i 0, h2) := e2
          have o := (ih (L - (p + 1)) (by omega)).2 (p + 1) c' n' m' r' g' h2 (Nat.le_refl _) o2
          refine o.le (by omega) o3 ?_
          simp only [bI_some, bV_some, bR_some, bL_some, ob_some, cd_t, cd_f, cd_d, okO_setI, okA_setI, okL_setI, aLen_setI, hR_setI, hI_setI, Bool.true_and, Bool.and_true, Bool.and_self, Option.isNone_some, Option.isSome_some, Option.isNone_none, Option.isSome_none, okO_chI, okA_chI, okL_chI, aLen_chI, hR_chI, ↓reduceIte, not_true_eq_false, not_false_eq_true, eq_self, c10, WMd w1, e11, n0, X67_77, e2, X67_79]
      · have zp : ¬ pkI t L p = 41 := fun y => z (p41.mp y)
        have st : rW (d + 6) 67 (47, (0, 0), [some (rz_r (some 109))], [], h) = rW (d + 6) 67 (80, (0, 0), [some (rz_r (some 109))], [], h) := by
          rw [X67_47]
          simp only [bI_some, bV_some, bR_some, bL_some, ob_some, cd_t, cd_f, cd_d, okO_setI, okA_setI, okL_setI, aLen_setI, hR_setI, hI_setI, Bool.true_and, Bool.and_true, Bool.and_self, Option.isNone_some, Option.isSome_some, Option.isNone_none, Option.isSome_none, okO_chI, okA_chI, okL_chI, aLen_chI, hR_chI, ↓reduceIte, not_true_eq_false, not_false_eq_true, eq_self, c10, WMd w, K49 w s.2.1, zp]
        rw [st, X67_80]
        by_cases za : p < L ∧ t p = 38
        · have zq : pkI t L p = 38 := p38.mpr za
          have l1 : ¬ (38 : Int32) = 124 := by decide
          obtain ⟨h1, e1, s1⟩ := K65 w0 sa (by rw [List.length_append, List.length_cons]; omega) (by omega) (by omega) (k := 11) (kd := 5) (Or.inl ⟨rfl, rfl⟩) (d + 4)
          have e1 : cW (d + 6) 65 [rz_r (some 109), rz_i 11] ha = some (rz_i 0, h1) := e1
          have tk : TOk (psh (aiO c aj n) n (5, 0)) (n + 1) (some (oj, some n) :: r) := fun m hm => by
            rcases List.mem_cons.mp hm with e | hm
            · cases e
              refine ⟨(jj.1.to (Nat.le_refl _) ka).to (by omega) (kp_p _ n (5, 0)), fun j hj => ?_⟩
              cases hj
              have : psh (aiO c aj n) n (5, 0) n = (5, 0) := if_pos rfl
              rw [this]
              exact ⟨by omega, rfl, by decide⟩
            · exact ((tr.to (Nat.le_refl _) ka).to (by omega) (kp_p _ n (5, 0))) m hm
          have o := (ih (L - (p + 1)) (by omega)).1 (p + 1) _ (n + 1) (some (oj, some n) :: r) g h1 (Nat.le_refl _) ⟨s1, by rw [List.length_cons]; omega, tk, q3, by show ms + (n + 1) + nBM r ≤ p + 1; omega, by
            show ((1048576 * 11 + (ms + n)) :: (jWM 12 ms oj ++ (1048576 * 13 :: tSM ms r))).length ≤ p + 1
            rw [List.length_cons, List.length_append, List.length_cons]
            omega, by omega⟩
          refine o.le (by omega) (aT_a hL (oj, aj) r g c n za) ?_
          simp only [bI_some, bV_some, bR_some, bL_some, ob_some, cd_t, cd_f, cd_d, okO_setI, okA_setI, okL_setI, aLen_setI, hR_setI, hI_setI, Bool.true_and, Bool.and_true, Bool.and_self, Option.isNone_some, Option.isSome_some, Option.isNone_none, Option.isSome_none, okO_chI, okA_chI, okL_chI, aLen_chI, hR_chI, ↓reduceIte, not_true_eq_false, not_false_eq_true, eq_self, c10, WMd w, WMd wa, K49 w s.2.1, K49 wa sa.2.1, zq, l1, X67_94, ea, X67_103, e1, X67_112]
        · have zq : ¬ pkI t L p = 38 := fun y => za (p38.mp y)
          by_cases zo : p < L ∧ t p = 124
          · have zr : pkI t L p = 124 := p24.mpr zo
            have l1 : ¬ (124 : Int32) = 38 := by decide
            obtain ⟨h1, e1, s1⟩ := K65 w0 so (by rw [List.length_cons]; omega) (by omega) (by omega) (k := 12) (kd := 4) (Or.inr ⟨rfl, rfl⟩) (d + 4)
            have e1 : cW (d + 6) 65 [rz_r (some 109), rz_i 12] ho = some (rz_i 0, h1) := e1
            have tk : TOk (psh (aiO (aiO c aj n) oj n) n (4, 0)) (n + 1) (some (some n, none) :: r) := fun m hm => by
              rcases List.mem_cons.mp hm with e | hm
              · cases e
                refine ⟨fun j hj => ?_, fun j hj => absurd hj (by simp)⟩
                cases hj
                have : psh (aiO (aiO c aj n) oj n) n (4, 0) n = (4, 0) := if_pos rfl
                rw [this]
                exact ⟨by omega, rfl, by decide⟩
              · exact (((tr.to (Nat.le_refl _) ka).to (Nat.le_refl _) ko).to (by omega) (kp_p _ n (4, 0))) m hm
            have o := (ih (L - (p + 1)) (by omega)).1 (p + 1) _ (n + 1) (some (some n, none) :: r) g h1 (Nat.le_refl _) ⟨s1, by rw [List.length_cons]; omega, tk, q3, by show ms + (n + 1) + nBM r ≤ p + 1; omega, by
              show ((1048576 * 12 + (ms + n)) :: (1048576 * 13 :: tSM ms r)).length ≤ p + 1
              rw [List.length_cons, List.length_cons]
              omega, by omega⟩
            refine o.le (by omega) (aT_o hL (oj, aj) r g c n zo) ?_
            simp only [bI_some, bV_some, bR_some, bL_some, ob_some, cd_t, cd_f, cd_d, okO_setI, okA_setI, okL_setI, aLen_setI, hR_setI, hI_setI, Bool.true_and, Bool.and_true, Bool.and_self, Option.isNone_some, Option.isSome_some, Option.isNone_none, Option.isSome_none, okO_chI, okA_chI, okL_chI, aLen_chI, hR_chI, ↓reduceIte, not_true_eq_false, not_false_eq_true, eq_self, c10, WMd w, WMd wo, K49 w s.2.1, K49 wo so.2.1, zr, l1, X67_84, X67_94, eo, X67_103, e1, X67_112]
          · have zr : ¬ pkI t L p = 124 := fun y => zo (p24.mp y)
            have k51 := fun d => K51 w 1 p d
            rw [show nI 1 = (1 : Int32) from rfl] at k51
            refine ⟨_, Or.inl ⟨_, aT_w (oj, aj) r g c n (by omega), ?_, s.wr 1 p⟩⟩
            simp only [bI_some, bV_some, bR_some, bL_some, ob_some, cd_t, cd_f, cd_d, okO_setI, okA_setI, okL_setI, aLen_setI, hR_setI, hI_setI, Bool.true_and, Bool.and_true, Bool.and_self, Option.isNone_some, Option.isSome_some, Option.isNone_none, Option.isSome_none, okO_chI, okA_chI, okL_chI, aLen_chI, hR_chI, ↓reduceIte, not_true_eq_false, not_false_eq_true, eq_self, c10, WMd w, K49 w s.2.1, zq, X67_84, zr, X67_88, s.2.1.2.2.2.1, k51]
            rfl
