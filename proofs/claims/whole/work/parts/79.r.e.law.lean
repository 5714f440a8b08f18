/-! the law's text: the pair -/
theorem rf_sw : ∀ q ∈ RF, ¬ (q.1 = 95 ∧ q.2.1 = 3) ∧ ¬ (q.1 = 81 ∧ q.2.1 = 5) := by decide +kernel
theorem Wf.sw {rb dr : Nat} {jd : Option Nat} {h : rz_H} (w : Wf rb dr jd h) : Wf dr rb jd (setR (setR h 95 3 (some dr)) 81 5 (some rb)) := by
  obtain ⟨w1, w2, w3, w4, w5, w6⟩ := w
  refine ⟨w1, fun q hq => ?_, ?_, ?_, ?_, ?_⟩
  · have n := rf_sw q hq
    show (if q.1 = 81 ∧ q.2.1 = 5 then some rb else (if q.1 = 95 ∧ q.2.1 = 3 then some dr else hR h q.1 q.2.1)) = some q.2.2
    rw [if_neg n.2, if_neg n.1]
    exact w2 q hq
  · show (if 95 = 81 ∧ 3 = 5 then some rb else (if 95 = 95 ∧ 3 = 3 then some dr else hR h 95 3)) = some dr
    rw [if_neg (by omega), if_pos ⟨rfl, rfl⟩]
  · show (if 81 = 81 ∧ 5 = 5 then some rb else (if 81 = 95 ∧ 5 = 3 then some dr else hR h 81 5)) = some rb
    rw [if_pos ⟨rfl, rfl⟩]
  · show (if 95 = 81 ∧ 4 = 5 then some rb else (if 95 = 95 ∧ 4 = 3 then some dr else hR h 95 4)) = jd
    rw [if_neg (by omega), if_neg (by omega)]
    exact w5
  · omega
theorem mkRell {rb dr : Nat} {jd : Option Nat} {h k : rz_H} (r1 : LaOk h 3) (r2 : LaRel h 3 110) (r4 : KpRel h) (w : Wf rb dr jd k) (l : LwRel k rb) (t0 : hI k 1 1 = 0) (t1 : hI k 109 4 = 0) (f : ∀ b i, (b = 0 ∨ (3 ≤ b ∧ b < 55) ∨ b = 110 ∨ b = 112 ∨ (b = 109 ∧ i = 39)) → hI k b i = hI h b i) : Rel k := Rel_mk w (r1.to (fun b h1 h2 i => f b i (by omega))) (r2.to (fun b hb i => f b i (by omega))) ⟨0, by omega, t0, t1, fun i hi => absurd hi (by omega)⟩ (r4.to (fun b hb i => f b i (by omega)) (f 0 9 (by omega)) (f 109 39 (by omega))) l
theorem P2 (x : Int32) : Pr Rel 2 70 [rz_i x] := by
  intro h r
  obtain ⟨rb, dr, jd, w, r1, r2, r3, r4, r5⟩ := id r
  have hrb := lw_rb w
  obtain ⟨N, t, T⟩ := mkTq r3
  have hNN := T.1.1
  by_cases hy : 1 ≤ x ∧ x ≤ 240
  · have y1 := Int32.not_lt.mpr hy.1
    have y2 := Int32.not_lt.mpr hy.2
    obtain ⟨n, hn, rfl⟩ := nI_of2 (x := x) (M := 240) (n := 240) rfl (fun q => y1 (Int32.lt_trans q (by decide))) hy.2
    have n0 : 0 < n := (nI_leI (a := 1) (b := n) (by omega) (by omega)).mp hy.1
    by_cases hnN : n ≤ N
    · have c1 : nI n ≤ nI N := nI_le hnN (by omega)
      let a0 : Nat → RU := fun _ => (0, (0, czz), (0, czz))
      obtain ⟨v, g1, e1, o1⟩ := C207 w T hnN hn a0 73
      have e1 : cW 99 207 [rz_r (some 81), rz_i (nI n)] h = some (rz_i v, g1) := e1
      have ok := law_ok t n 17 0 0 a0 (by omega) (fun i hi => absurd hi (by omega))
      have F1 : FE dr h g1 := by
        rcases o1 with ⟨e, -, -, f⟩ | ⟨q, -, -, -, -, p, -, f⟩
        · exact f
        · exact f.1
      have w1 : Wf rb dr jd g1 := w.e F1.1
      let g2 := setI g1 1 1 0
      have w2 : Wf rb dr jd g2 := w1
      have o2 : ∀ b i, b ≠ 1 → hI g2 b i = hI g1 b i := fun b i z => by
        show hI (setI g1 1 1 0) b i = _
        rw [hI_setI, if_neg (by omega)]
      have o3 : ∀ b i, b ≠ 1 → b ≠ 81 → ¬ (dr ≤ b ∧ b ≤ dr + 5) → hI g2 b i = hI h b i := fun b i z1 z2 z3 => (o2 b i z1).trans (F1.2 b i z2 z3)
      have st : cW DD 2 [rz_r (some 0), rz_i (nI n)] h = rW 99 2 (21, (0, 0), [some (rz_r (some 0)), some (rz_i (nI n)), some (rz_i v)], [], g2) := by
        rw [show DD = 99 + 1 from rfl, X2]
        simp only [bI_some, bV_some, bR_some, bL_some, ob_some, cd_t, cd_f, cd_d, okO_setI, okA_setI, okL_setI, aLen_setI, hR_setI, hI_setI, Bool.true_and, Bool.and_true, Bool.and_self, Option.isNone_some, Option.isSome_some, Option.isNone_none, Option.isSome_none, okO_chI, okA_chI, okL_chI, aLen_chI, hR_chI, ↓reduceIte, not_true_eq_false, not_false_eq_true, eq_self, c10, if_neg y1, X2_3, if_neg y2, X2_6, ↓WCb w, WRt w, S268 w, T.2.1, if_pos c1, X2_13, e1]
        rw [X2_18]
        simp only [bI_some, bV_some, bR_some, bL_some, ob_some, cd_t, cd_f, cd_d, okO_setI, okA_setI, okL_setI, aLen_setI, hR_setI, hI_setI, Bool.true_and, Bool.and_true, Bool.and_self, Option.isNone_some, Option.isSome_some, Option.isNone_none, Option.isSome_none, okO_chI, okA_chI, okL_chI, aLen_chI, hR_chI, ↓reduceIte, not_true_eq_false, not_false_eq_true, eq_self, c10, ↓WCb w1, WRt w1, S272 w1]
        rfl
      rcases o1 with ⟨er, hz, rfl, -⟩ | ⟨q, hz, rfl, q0, q16, p, hp, lr⟩
      · rw [hz] at ok
        rcases ok with ⟨e, he, k1, k2, k3⟩ | ⟨q, hq, -⟩
        · have : er = e := by simpa using he
          subst this
          have ng : erI er.1 er.2 ≤ 0 := er_ck er.1 k2 k1 er.2 (by omega)
          have T2 : Tm g2 N t := ⟨T.1.1, fun i hi => ⟨(T.1.2 i hi).1, by rw [o3 113 i (by omega) (by omega) (by omega)]; exact (T.1.2 i hi).2⟩⟩
          obtain ⟨g3, b0, b1, b2⟩ := K70 w2 T2 ((o3 109 4 (by omega) (by omega) (by omega)).trans T.2.2.1) n0 hn hnN a0
          rcases b2 with ⟨e, hz', e3, f3⟩ | ⟨q, hz', -⟩
          · rw [hz] at hz'
            have : er = e := by simpa using hz'
            subst this
            have w3 : Wf rb dr jd g3 := w2.e b0
            have oo : ∀ b i, b ≠ 1 → b ≠ 81 → ¬ (dr ≤ b ∧ b ≤ dr + 5) → ¬ (b = 109 ∧ 4 ≤ i ∧ i ≤ 12) → ¬ (114 ≤ b ∧ b ≤ 119) → hI g3 b i = hI h b i := fun b i z1 z2 z3 z4 z5 => (f3 b i z4 z5).trans (o3 b i z1 z2 z3)
            refine ⟨erI er.1 er.2, g2, g3, ?_, e3, (WMd w2).1, mkRell r1 r2 r4 w3 (r5.to (fun b hb i => oo b i (by omega) (by omega) (by omega) (by omega) (by omega)) (oo 109 13 (by omega) (by omega) (by omega) (by omega) (by omega))) ?_ b1 (fun b i hb => oo b i (by omega) (by omega) (by omega) (by omega) (by omega))⟩
            · rw [st, X2_21]
              simp only [bI_some, bV_some, bR_some, bL_some, ob_some, cd_t, cd_f, cd_d, okO_setI, okA_setI, okL_setI, aLen_setI, hR_setI, hI_setI, Bool.true_and, Bool.and_true, Bool.and_self, Option.isNone_some, Option.isSome_some, Option.isNone_none, Option.isSome_none, okO_chI, okA_chI, okL_chI, aLen_chI, hR_chI, ↓reduceIte, not_true_eq_false, not_false_eq_true, eq_self, c10, if_pos ng, X2_32]
            · rw [f3 1 1 (by omega) (by omega)]
              show hI (setI g1 1 1 0) 1 1 = 0
              rw [hI_setI, if_pos ⟨rfl, rfl⟩]
          · rw [hz] at hz'
            exact absurd hz' (by simp)
        · exact absurd hq (by simp)
      · rw [hz] at ok
        rcases ok with ⟨e, he, -⟩ | ⟨q', hq, G⟩
        · exact absurd he (by simp)
        · have : q = q' := by simpa using hq
          subst this
          have ps : ¬ nI q.1 ≤ 0 := nI_nle q0 (by omega)
          let g3 := setR g2 95 3 (some dr)
          let g4 := setR g3 81 5 (some rb)
          have w4 : Wf dr rb jd g4 := Wf.sw w2
          have o4 : ∀ b i, hI g4 b i = hI g2 b i := fun b i => rfl
          have T4 : Tm g4 N t := ⟨T.1.1, fun i hi => ⟨(T.1.2 i hi).1, by rw [o4, o3 113 i (by omega) (by omega) (by omega)]; exact (T.1.2 i hi).2⟩⟩
          obtain ⟨g5, b0, b1, b2⟩ := K70 w4 T4 ((o4 109 4).trans ((o3 109 4 (by omega) (by omega) (by omega)).trans T.2.2.1)) n0 hn hnN a0
          rcases b2 with ⟨e, hz', -⟩ | ⟨q', hz', e5, -, -, v13, lm, M, f5⟩
          · rw [hz] at hz'
            exact absurd hz' (by simp)
          · rw [hz] at hz'
            have : q = q' := by simpa using hz'
            subst this
            have w5 : Wf dr rb jd g5 := w4.e b0
            obtain ⟨-, -, l5, l6, l7, l8⟩ := lr
            have od : ∀ b i, dr ≤ b → b ≤ dr + 5 → hI g5 b i = hI g1 b i := fun b i z1 z2 => (f5 b i (by omega) (by omega)).trans ((o4 b i).trans (o2 b i (by omega)))
            have oo : ∀ b i, b ≠ 1 → b ≠ 81 → ¬ (dr ≤ b ∧ b ≤ dr + 5) → ¬ (b = 109 ∧ 4 ≤ i ∧ i ≤ 13) → ¬ (114 ≤ b ∧ b ≤ 124) → hI g5 b i = hI h b i := fun b i z1 z2 z3 z4 z5 => (f5 b i z4 z5).trans ((o4 b i).trans (o3 b i z1 z2 z3))
            have C5 : ∀ i, i < q.1 → RuC dr g5 (bA q.2 i) i (q.2 i) := fun i hi => by
              obtain ⟨s1, s2, s3, s4, s5⟩ := l8 i hi
              exact ⟨(od _ _ (by omega) (by omega)).trans s1, (od _ _ (by omega) (by omega)).trans s2, (od _ _ (by omega) (by omega)).trans s3, s4.to (fun b j hb _ => od b j (by omega) (by omega)), fun ha => (s5 ha).to (fun b j hb _ => od b j (by omega) (by omega))⟩
            have lw : LwRel g5 dr := lw_R q16 hn ((od dr 5 (by omega) (by omega)).trans l5) v13 ((od dr 6 (by omega) (by omega)).trans l6) (by omega) lm C5 M G
            refine ⟨nI q.1, g4, g5, ?_, e5, (WMd w4).1, mkRell r1 r2 r4 w5 lw ?_ b1 (fun b i hb => oo b i (by omega) (by omega) (by omega) (by omega) (by omega))⟩
            · have r81 : hR g2 81 5 = some dr := (WLr w2).2.2.2
              have r95 : hR g2 95 3 = some rb := w2.2.2.1
              have k205 : ∀ d, cW (d + 1) 205 [rz_r (some 81)] g2 = some (rz_r (some dr), g2) := fun d => by
                rw [E205, r81]
                simp only [cd_t, WRt w2]
              have k165 : ∀ d, cW (d + 1) 165 [rz_r (some 95), rz_r (some dr)] g2 = some (rz_r (some rb), g3) := fun d => by
                rw [E165, r95]
                simp only [cd_t, WRt w2]
                rfl
              have ok3 : okO g3 81 [5] = true := (WRt w2).2.2.2.2.2.1
              have k206 : ∀ d, cW (d + 1) 206 [rz_r (some 81), rz_r (some rb)] g3 = some (rz_i 0, g4) := fun d => by
                rw [E206]
                simp only [cd_t, ok3]
                rfl
              rw [st, X2_21]
              simp only [bI_some, bV_some, bR_some, bL_some, ob_some, cd_t, cd_f, cd_d, okO_setI, okA_setI, okL_setI, aLen_setI, hR_setI, hI_setI, Bool.true_and, Bool.and_true, Bool.and_self, Option.isNone_some, Option.isSome_some, Option.isNone_none, Option.isSome_none, okO_chI, okA_chI, okL_chI, aLen_chI, hR_chI, ↓reduceIte, not_true_eq_false, not_false_eq_true, eq_self, c10, if_neg ps]
              rw [X2_23]
              simp only [bI_some, bV_some, bR_some, bL_some, ob_some, cd_t, cd_f, cd_d, okO_setI, okA_setI, okL_setI, aLen_setI, hR_setI, hI_setI, Bool.true_and, Bool.and_true, Bool.and_self, Option.isNone_some, Option.isSome_some, Option.isNone_none, Option.isSome_none, okO_chI, okA_chI, okL_chI, aLen_chI, hR_chI, ↓reduceIte, not_true_eq_false, not_false_eq_true, eq_self, c10, ↓WCb w2, WRt w2, k205, k165, ok3, k206, X2_32]
            · rw [f5 1 1 (by omega) (by omega)]
              show hI (setI g1 1 1 0) 1 1 = 0
              rw [hI_setI, if_pos ⟨rfl, rfl⟩]
    · have c1 : ¬ nI n ≤ nI N := nI_ge (by omega) (by omega)
      refine ⟨-1, h, h, ?_, ?_, (WMd w).1, r⟩
      · rw [show DD = 99 + 1 from rfl, X2]
        simp only [bI_some, bV_some, bR_some, bL_some, ob_some, cd_t, cd_f, cd_d, okO_setI, okA_setI, okL_setI, aLen_setI, hR_setI, hI_setI, Bool.true_and, Bool.and_true, Bool.and_self, Option.isNone_some, Option.isSome_some, Option.isNone_none, Option.isSome_none, okO_chI, okA_chI, okL_chI, aLen_chI, hR_chI, ↓reduceIte, not_true_eq_false, not_false_eq_true, eq_self, c10, if_neg y1, X2_3, if_neg y2, X2_6, ↓WCb w, WRt w, S268 w, T.2.1, if_neg c1, X2_11]
      · rw [show DD = 99 + 1 from rfl, X70]
        simp only [bI_some, bV_some, bR_some, bL_some, ob_some, cd_t, cd_f, cd_d, okO_setI, okA_setI, okL_setI, aLen_setI, hR_setI, hI_setI, Bool.true_and, Bool.and_true, Bool.and_self, Option.isNone_some, Option.isSome_some, Option.isNone_none, Option.isSome_none, okO_chI, okA_chI, okL_chI, aLen_chI, hR_chI, ↓reduceIte, not_true_eq_false, not_false_eq_true, eq_self, c10, S33, if_pos hy, X70_5, WMd w, T.2.2.1, if_neg c1, X70_9, c10]
  · refine ⟨-1, h, h, ?_, ?_, (WMd w).1, r⟩
    · rw [show DD = 99 + 1 from rfl, X2]
      by_cases y1 : x < 1
      · simp only [bI_some, bV_some, bR_some, bL_some, ob_some, cd_t, cd_f, cd_d, okO_setI, okA_setI, okL_setI, aLen_setI, hR_setI, hI_setI, Bool.true_and, Bool.and_true, Bool.and_self, Option.isNone_some, Option.isSome_some, Option.isNone_none, Option.isSome_none, okO_chI, okA_chI, okL_chI, aLen_chI, hR_chI, ↓reduceIte, not_true_eq_false, not_false_eq_true, eq_self, c10, if_pos y1, X2_11]
      · have y2 : (240 : Int32) < x := Int32.not_le.mp fun e => hy ⟨Int32.not_lt.mp y1, e⟩
        simp only [bI_some, bV_some, bR_some, bL_some, ob_some, cd_t, cd_f, cd_d, okO_setI, okA_setI, okL_setI, aLen_setI, hR_setI, hI_setI, Bool.true_and, Bool.and_true, Bool.and_self, Option.isNone_some, Option.isSome_some, Option.isNone_none, Option.isSome_none, okO_chI, okA_chI, okL_chI, aLen_chI, hR_chI, ↓reduceIte, not_true_eq_false, not_false_eq_true, eq_self, c10, if_neg y1, X2_3, if_pos y2, X2_11]
    · rw [show DD = 99 + 1 from rfl, X70]
      simp only [bI_some, bV_some, bR_some, bL_some, ob_some, cd_t, cd_f, cd_d, okO_setI, okA_setI, okL_setI, aLen_setI, hR_setI, hI_setI, Bool.true_and, Bool.and_true, Bool.and_self, Option.isNone_some, Option.isSome_some, Option.isNone_none, Option.isSome_none, okO_chI, okA_chI, okL_chI, aLen_chI, hR_chI, ↓reduceIte, not_true_eq_false, not_false_eq_true, eq_self, c10, S33, if_neg hy, X70_9]
