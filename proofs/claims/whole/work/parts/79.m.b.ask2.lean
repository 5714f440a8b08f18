/-! tried, done, often -/
theorem P6 (x y : Int32) : Pr Rel 6 91 [rz_i x, rz_i y] := by
  intro h r
  obtain ⟨rb, dr, jd, w, r1, r2, r3, r4, r5⟩ := id r
  have hL : isL 3 := Or.inl rfl
  have hL5 : isL 55 := Or.inr (Or.inr rfl)
  obtain ⟨D, tk, z, O, C, M⟩ := mkL hL r1 r2
  by_cases hx : 1 ≤ x ∧ x ≤ 240
  · have h1 := Int32.not_lt.mpr hx.1
    have h2 := Int32.not_lt.mpr hx.2
    obtain ⟨n, hn, rfl⟩ := nI_of2 (x := x) (M := 240) (n := 240) rfl (fun q => h1 (Int32.lt_trans q (by decide))) hx.2
    obtain ⟨k0, e0, w0, C0, f0⟩ := try55 w r1 O C
    obtain ⟨k1, e1, ⟨jd1, w1⟩, C1, f1⟩ := C187 w0 r5 hL5 ((Ecl.self h rb).lf hL5 (by have := lw_rb w; omega) f0) O C0 hn 91
    have O1 := pas_ok h n (D, tk, z, 0) O
    have pF := fun k => pas_F h k n (D, tk, z, 0)
    have f01 := f0.trans f1
    obtain ⟨m0, e2, v0, a1, a2⟩ := tryM w1
    have M1 : LM k1 D tk z := M.to (fun i => f01 110 i (by omega) (by omega) (by omega))
    have M0 : LM m0 D tk z := M1.to (fun i => a2 110 i (by omega))
    have l0 : Mlw h m0 := ⟨fun b i h1 h2 => (a2 b i (by omega)).trans ((Mlw.lf hL5 f01).1 b i h1 h2), (a2 109 13 (by omega)).trans (Mlw.lf hL5 f01).2⟩
    obtain ⟨m1, e3, z3, M3, g3n, g3⟩ := M87 v0 r5 l0 O M0 hn 92
    have v1 : Wf rb dr jd1 m1 := v0.e z3
    obtain ⟨m2, e4, v2, b1, b2⟩ := putM v1
    have fin := askRel w ⟨r3, r4, r5⟩ O C M f01 a1 a2 g3 v2 b1 b2
    generalize pas h n (D, tk, z, 0) = Z at e1 C1 O1 M3 g3n pF
    have cl : ∀ (y v : Int32), rW 99 6 (43, (0, 0), [some (rz_r (some 0)), some (rz_i (nI n)), some (rz_i y), some (rz_i (nI Z.2.2.2)), none], [], k1) = some (rz_i v, k1) → rW 99 6 (31, (0, 0), [some (rz_r (some 0)), some (rz_i (nI n)), some (rz_i y), none, none], [], h) = some (rz_i v, k1) := fun y v e => by
      rw [X6_31]
      simp only [bI_some, bV_some, bR_some, bL_some, ob_some, cd_t, cd_f, cd_d, okO_setI, okA_setI, okL_setI, aLen_setI, hR_setI, hI_setI, Bool.true_and, Bool.and_true, Bool.and_self, Option.isNone_some, Option.isSome_some, Option.isNone_none, Option.isSome_none, okO_chI, okA_chI, okL_chI, aLen_chI, hR_chI, ↓reduceIte, not_true_eq_false, not_false_eq_true, eq_self, c10, ↓WCb w, WRt w, e0, X6_36, ↓WCb w0, WRt w0, e1]
      exact e
    have ml : ∀ (y v : Int32), rW 99 91 (38, (0, 0), [some (rz_r (some 109)), some (rz_i (nI n)), some (rz_i y), none], [], m1) = rW 99 91 (82, (0, 0), [some (rz_r (some 109)), some (rz_i (nI n)), some (rz_i y), some (rz_i v)], [], m1) → rW 99 91 (30, (0, 0), [some (rz_r (some 109)), some (rz_i (nI n)), some (rz_i y), none], [], k1) = some (rz_i v, m2) := fun y v e => by
      rw [X91_30]
      simp only [bI_some, bV_some, bR_some, bL_some, ob_some, cd_t, cd_f, cd_d, okO_setI, okA_setI, okL_setI, aLen_setI, hR_setI, hI_setI, Bool.true_and, Bool.and_true, Bool.and_self, Option.isNone_some, Option.isSome_some, Option.isNone_none, Option.isSome_none, okO_chI, okA_chI, okL_chI, aLen_chI, hR_chI, ↓reduceIte, not_true_eq_false, not_false_eq_true, eq_self, c10, ↓WMb w1, WMd w1, e2, X91_35, WMd v0, e3]
      rw [e, X91_82]
      simp only [bI_some, bV_some, bR_some, bL_some, ob_some, cd_t, cd_f, cd_d, okO_setI, okA_setI, okL_setI, aLen_setI, hR_setI, hI_setI, Bool.true_and, Bool.and_true, Bool.and_self, Option.isNone_some, Option.isSome_some, Option.isNone_none, Option.isSome_none, okO_chI, okA_chI, okL_chI, aLen_chI, hR_chI, ↓reduceIte, not_true_eq_false, not_false_eq_true, eq_self, c10, ↓WMb v1, WMd v1, e4, X91_87]
    have cg : ∀ j, j ≤ 2 → cW 100 6 [rz_r (some 0), rz_i (nI n), rz_i (nI j)] h = rW 99 6 (31, (0, 0), [some (rz_r (some 0)), some (rz_i (nI n)), some (rz_i (nI j)), none, none], [], h) := fun j hj => by
      rw [X6]
      simp (disch := omega) only [↓cd_d, ↓irem_eq_mod, ↓ob_setI, ↓ob_chI, ↓ob_some, bI_some, bV_some, bR_some, bL_some, ob_some, cd_t, cd_f, okO_setI, okA_setI, okL_setI, aLen_setI, hR_setI, hI_setI, Bool.true_and, Bool.and_true, Bool.and_self, Option.isNone_some, Option.isSome_some, Option.isNone_none, Option.isSome_none, okO_chI, okA_chI, okL_chI, aLen_chI, hR_chI, ↓reduceIte, not_true_eq_false, not_false_eq_true, eq_self, c10, Nat.zero_add, nI_add, litA, litB, litM, nI_mul, nI_leI, nI_ltI, nI_eq, litLe, litLe2, litLt, litLt2, litEq, litEq2, in_nI, lit_in, nI_clamp, lit_cl, if_pos, if_neg, h1, h2, X6_3, X6_6, X6_8, X6_11, X6_19]
    have mg : ∀ j, j ≤ 2 → cW 100 91 [rz_r (some 109), rz_i (nI n), rz_i (nI j)] k1 = rW 99 91 (30, (0, 0), [some (rz_r (some 109)), some (rz_i (nI n)), some (rz_i (nI j)), none], [], k1) := fun j hj => by
      have c2 : (0 : Int32) ≤ nI j ∧ nI j ≤ 2 := ⟨nI_pos' (by omega), nI_le (b := 2) hj (by omega)⟩
      rw [X91]
      simp only [bI_some, bV_some, bR_some, bL_some, ob_some, cd_t, cd_f, cd_d, okO_setI, okA_setI, okL_setI, aLen_setI, hR_setI, hI_setI, Bool.true_and, Bool.and_true, Bool.and_self, Option.isNone_some, Option.isSome_some, Option.isNone_none, Option.isSome_none, okO_chI, okA_chI, okL_chI, aLen_chI, hR_chI, ↓reduceIte, not_true_eq_false, not_false_eq_true, eq_self, c10, S33, if_pos hx, X91_5, if_pos c2]
    have kd : ∀ c k, (c = 1 ∨ c = 2 ∨ c = 3) → k < 8 → 0 < (D k).1 → cW 100 6 [rz_r (some 0), rz_i (nI n), rz_i (nI (10 * c + k))] h = rW 99 6 (31, (0, 0), [some (rz_r (some 0)), some (rz_i (nI n)), some (rz_i (nI (10 * c + k))), none, none], [], h) ∧ cW 100 91 [rz_r (some 109), rz_i (nI n), rz_i (nI (10 * c + k))] k1 = rW 99 91 (30, (0, 0), [some (rz_r (some 109)), some (rz_i (nI n)), some (rz_i (nI (10 * c + k))), none], [], k1) := fun c k hc hk hF => by
      have c181 := C181 w hL hk (O.1 k hk) (C.1 k hk) hF
      have md := nI_mod (a := 10 * c + k) (b := 10) (by omega) (by omega) (by omega)
      rw [show nI 10 = (10 : Int32) from rfl, show (10 * c + k) % 10 = k by omega] at md
      refine ⟨?_, ?_⟩
      · rw [X6]
        simp (disch := omega) only [↓cd_d, ↓irem_eq_mod, ↓ob_setI, ↓ob_chI, ↓ob_some, bI_some, bV_some, bR_some, bL_some, ob_some, cd_t, cd_f, okO_setI, okA_setI, okL_setI, aLen_setI, hR_setI, hI_setI, Bool.true_and, Bool.and_true, Bool.and_self, Option.isNone_some, Option.isSome_some, Option.isNone_none, Option.isSome_none, okO_chI, okA_chI, okL_chI, aLen_chI, hR_chI, ↓reduceIte, not_true_eq_false, not_false_eq_true, eq_self, c10, Nat.zero_add, nI_add, litA, litB, litM, nI_mul, nI_leI, nI_ltI, nI_eq, litLe, litLe2, litLt, litLt2, litEq, litEq2, in_nI, lit_in, nI_clamp, lit_cl, if_pos, if_neg, h1, h2, X6_3, X6_6, X6_8, X6_11, X6_14, X6_19, X6_22, ↓WCb w, WRt w, md, c181]
      · have c2 : ¬ ((0 : Int32) ≤ nI (10 * c + k) ∧ nI (10 * c + k) ≤ 2) := fun q => by
          have := (nI_leI (b := 2) (by omega) (by omega)).mp q.2
          omega
        have c39 := M39 w1 hk (O.1 k hk) (M1.1 k hk)
        rw [decide_eq_true hF] at c39
        have no : ∀ (z' : Int32), (∀ k', k' < 8 → ¬ z' = nI k') → ∀ d, cW (d + 2) 39 [rz_r (some 109), rz_i z'] k1 = some (rz_i 0, k1) := fun z' hz d => by
          have q : Dn k1 z' := fun k' hk' e => absurd e (hz k' hk')
          exact N39 w1 q d
        rw [X91]
        simp only [bI_some, bV_some, bR_some, bL_some, ob_some, cd_t, cd_f, cd_d, okO_setI, okA_setI, okL_setI, aLen_setI, hR_setI, hI_setI, Bool.true_and, Bool.and_true, Bool.and_self, Option.isNone_some, Option.isSome_some, Option.isNone_none, Option.isSome_none, okO_chI, okA_chI, okL_chI, aLen_chI, hR_chI, ↓reduceIte, not_true_eq_false, not_false_eq_true, eq_self, c10, S33, if_pos hx, X91_5, if_neg c2, X91_10, WMd w1]
        rcases hc with rfl | rfl | rfl
        · have u1 : nI (10 * 1 + k) - (10 : Int32) = nI k := by
            have := nI_sub (a := 10 * 1 + k) (b := 10) (by omega)
            rw [show 10 * 1 + k - 10 = k by omega] at this
            exact this
          simp only [bI_some, bV_some, bR_some, bL_some, ob_some, cd_t, cd_f, cd_d, okO_setI, okA_setI, okL_setI, aLen_setI, hR_setI, hI_setI, Bool.true_and, Bool.and_true, Bool.and_self, Option.isNone_some, Option.isSome_some, Option.isNone_none, Option.isSome_none, okO_chI, okA_chI, okL_chI, aLen_chI, hR_chI, ↓reduceIte, not_true_eq_false, not_false_eq_true, eq_self, c10, u1, c39, bI1]
        · have u1 : nI (10 * 2 + k) - (10 : Int32) = nI (10 + k) := by
            have := nI_sub (a := 10 * 2 + k) (b := 10) (by omega)
            rw [show 10 * 2 + k - 10 = 10 + k by omega] at this
            exact this
          have u2 : nI (10 * 2 + k) - (20 : Int32) = nI k := by
            have := nI_sub (a := 10 * 2 + k) (b := 20) (by omega)
            rw [show 10 * 2 + k - 20 = k by omega] at this
            exact this
          have n1 := no (nI (10 + k)) (fun k' hk' e => by have := (nI_eq (by omega) (by omega)).mp e; omega)
          simp only [bI_some, bV_some, bR_some, bL_some, ob_some, cd_t, cd_f, cd_d, okO_setI, okA_setI, okL_setI, aLen_setI, hR_setI, hI_setI, Bool.true_and, Bool.and_true, Bool.and_self, Option.isNone_some, Option.isSome_some, Option.isNone_none, Option.isSome_none, okO_chI, okA_chI, okL_chI, aLen_chI, hR_chI, ↓reduceIte, not_true_eq_false, not_false_eq_true, eq_self, c10, u1, n1, X91_16, WMd w1, u2, c39, bI1]
        · have u1 : nI (10 * 3 + k) - (10 : Int32) = nI (20 + k) := by
            have := nI_sub (a := 10 * 3 + k) (b := 10) (by omega)
            rw [show 10 * 3 + k - 10 = 20 + k by omega] at this
            exact this
          have u2 : nI (10 * 3 + k) - (20 : Int32) = nI (10 + k) := by
            have := nI_sub (a := 10 * 3 + k) (b := 20) (by omega)
            rw [show 10 * 3 + k - 20 = 10 + k by omega] at this
            exact this
          have u3 : nI (10 * 3 + k) - (30 : Int32) = nI k := by
            have := nI_sub (a := 10 * 3 + k) (b := 30) (by omega)
            rw [show 10 * 3 + k - 30 = k by omega] at this
            exact this
          have n1 := no (nI (20 + k)) (fun k' hk' e => by have := (nI_eq (by omega) (by omega)).mp e; omega)
          have n2 := no (nI (10 + k)) (fun k' hk' e => by have := (nI_eq (by omega) (by omega)).mp e; omega)
          simp only [bI_some, bV_some, bR_some, bL_some, ob_some, cd_t, cd_f, cd_d, okO_setI, okA_setI, okL_setI, aLen_setI, hR_setI, hI_setI, Bool.true_and, Bool.and_true, Bool.and_self, Option.isNone_some, Option.isSome_some, Option.isNone_none, Option.isSome_none, okO_chI, okA_chI, okL_chI, aLen_chI, hR_chI, ↓reduceIte, not_true_eq_false, not_false_eq_true, eq_self, c10, u1, n1, X91_16, WMd w1, u2, n2, X91_22, u3, c39, bI1]
    have hex : ∀ v : Int32, cW 100 6 [rz_r (some 0), rz_i (nI n), rz_i y] h = some (rz_i v, k1) → cW 100 91 [rz_r (some 109), rz_i (nI n), rz_i y] k1 = some (rz_i v, m2) → ∃ v h1 h2, cW DD 6 (rz_r (some 0) :: [rz_i (nI n), rz_i y]) h = some (rz_i v, h1) ∧ cW DD 91 (rz_r (some 109) :: [rz_i (nI n), rz_i y]) h1 = some (rz_i v, h2) ∧ okO h1 109 [10] = true ∧ Rel h2 := fun v p1 p2 => ⟨v, k1, m2, p1, p2, (WMd w1).1, fin⟩
    by_cases y0 : y = nI 0
    · subst y0
      refine hex (nI (fbs (rnS Z.1))) ?_ ?_
      · rw [cg 0 (by omega)]
        refine cl _ _ ?_
        rw [X6_43]
        simp (disch := omega) only [↓cd_d, ↓irem_eq_mod, ↓ob_setI, ↓ob_chI, ↓ob_some, bI_some, bV_some, bR_some, bL_some, ob_some, cd_t, cd_f, okO_setI, okA_setI, okL_setI, aLen_setI, hR_setI, hI_setI, Bool.true_and, Bool.and_true, Bool.and_self, Option.isNone_some, Option.isSome_some, Option.isNone_none, Option.isSome_none, okO_chI, okA_chI, okL_chI, aLen_chI, hR_chI, ↓reduceIte, not_true_eq_false, not_false_eq_true, eq_self, c10, Nat.zero_add, nI_add, litA, litB, litM, nI_mul, nI_leI, nI_ltI, nI_eq, litLe, litLe2, litLt, litLt2, litEq, litEq2, in_nI, lit_in, nI_clamp, lit_cl, if_pos, if_neg, X6_48, X6_51, X6_53, ↓WCb w1, WRt w1, C184 w1 hL5 O1 C1]
      · rw [mg 0 (by omega)]
        refine ml _ _ ?_
        rw [X91_38]
        simp only [cd_d]
        rw [if_pos (by decide), X91_40]
        simp only [bI_some, bV_some, bR_some, bL_some, ob_some, cd_t, cd_f, cd_d, okO_setI, okA_setI, okL_setI, aLen_setI, hR_setI, hI_setI, Bool.true_and, Bool.and_true, Bool.and_self, Option.isNone_some, Option.isSome_some, Option.isNone_none, Option.isSome_none, okO_chI, okA_chI, okL_chI, aLen_chI, hR_chI, ↓reduceIte, not_true_eq_false, not_false_eq_true, eq_self, c10, WMd v1, M88 v1 O1 M3, X91_43]
    by_cases y1 : y = nI 1
    · subst y1
      refine hex (nI (fbs (pdS Z.1))) ?_ ?_
      · rw [cg 1 (by omega)]
        refine cl _ _ ?_
        rw [X6_43]
        simp (disch := omega) only [↓cd_d, ↓irem_eq_mod, ↓ob_setI, ↓ob_chI, ↓ob_some, bI_some, bV_some, bR_some, bL_some, ob_some, cd_t, cd_f, okO_setI, okA_setI, okL_setI, aLen_setI, hR_setI, hI_setI, Bool.true_and, Bool.and_true, Bool.and_self, Option.isNone_some, Option.isSome_some, Option.isNone_none, Option.isSome_none, okO_chI, okA_chI, okL_chI, aLen_chI, hR_chI, ↓reduceIte, not_true_eq_false, not_false_eq_true, eq_self, c10, Nat.zero_add, nI_add, litA, litB, litM, nI_mul, nI_leI, nI_ltI, nI_eq, litLe, litLe2, litLt, litLt2, litEq, litEq2, in_nI, lit_in, nI_clamp, lit_cl, if_pos, if_neg, X6_48, X6_51, X6_57, ↓WCb w1, WRt w1, C185 w1 hL5 O1 C1]
      · rw [mg 1 (by omega)]
        refine ml _ _ ?_
        rw [X91_38]
        simp only [cd_d]
        rw [if_neg (by decide), if_pos (by decide), X91_44]
        simp only [bI_some, bV_some, bR_some, bL_some, ob_some, cd_t, cd_f, cd_d, okO_setI, okA_setI, okL_setI, aLen_setI, hR_setI, hI_setI, Bool.true_and, Bool.and_true, Bool.and_self, Option.isNone_some, Option.isSome_some, Option.isNone_none, Option.isSome_none, okO_chI, okA_chI, okL_chI, aLen_chI, hR_chI, ↓reduceIte, not_true_eq_false, not_false_eq_true, eq_self, c10, WMd v1, M89 v1 O1 M3, X91_47]
    by_cases y2 : y = nI 2
    · subst y2
      refine hex (nI Z.2.2.2) ?_ ?_
      · rw [cg 2 (by omega)]
        refine cl _ _ ?_
        rw [X6_43]
        simp (disch := omega) only [↓cd_d, ↓irem_eq_mod, ↓ob_setI, ↓ob_chI, ↓ob_some, bI_some, bV_some, bR_some, bL_some, ob_some, cd_t, cd_f, okO_setI, okA_setI, okL_setI, aLen_setI, hR_setI, hI_setI, Bool.true_and, Bool.and_true, Bool.and_self, Option.isNone_some, Option.isSome_some, Option.isNone_none, Option.isSome_none, okO_chI, okA_chI, okL_chI, aLen_chI, hR_chI, ↓reduceIte, not_true_eq_false, not_false_eq_true, eq_self, c10, Nat.zero_add, nI_add, litA, litB, litM, nI_mul, nI_leI, nI_ltI, nI_eq, litLe, litLe2, litLt, litLt2, litEq, litEq2, in_nI, lit_in, nI_clamp, lit_cl, if_pos, if_neg, X6_46]
      · rw [mg 2 (by omega)]
        refine ml _ _ ?_
        rw [X91_38]
        simp only [cd_d]
        rw [if_neg (by decide), if_neg (by decide), if_pos (by decide), X91_48]
        simp only [bI_some, bV_some, bR_some, bL_some, ob_some, cd_t, cd_f, cd_d, okO_setI, okA_setI, okL_setI, aLen_setI, hR_setI, hI_setI, Bool.true_and, Bool.and_true, Bool.and_self, Option.isNone_some, Option.isSome_some, Option.isNone_none, Option.isSome_none, okO_chI, okA_chI, okL_chI, aLen_chI, hR_chI, ↓reduceIte, not_true_eq_false, not_false_eq_true, eq_self, c10, WMd v1, g3n, X91_51]
    by_cases hb : ∃ c k, (c = 1 ∨ c = 2 ∨ c = 3) ∧ k < 8 ∧ y = nI (10 * c + k) ∧ 0 < (D k).1
    · obtain ⟨c, k, hc, hk, rfl, hF⟩ := hb
      obtain ⟨g1, g2⟩ := kd c k hc hk hF
      have F1 : 0 < (Z.1 k).1 := by rw [pF k]; exact hF
      obtain ⟨-, hd⟩ := WLk w1 hL5 hk
      have c181b := C181 w1 hL5 hk (O1.1 k hk) (C1.1 k hk) F1
      have s137 := S137 w1 hd
      have s138 := S138 w1 hd
      have c147 := C147 w1 hd (O1.1 k hk) (C1.1 k hk)
      have m44 := M44 v1 hk (O1.1 k hk) (M3.1 k hk)
      have c2 : hI k1 (55 + 2 + 3 * k) 3 = nI (Z.1 k).2.1 := (C1.1 k hk).2.1
      have c3 : hI k1 (55 + 2 + 3 * k) 4 = nI (Z.1 k).2.2.1 := (C1.1 k hk).2.2.1
      have q2 : hI m1 110 (264 + k) = nI (Z.1 k).2.1 := (M3.1 k hk).2.1
      have q3 : hI m1 110 (272 + k) = nI (Z.1 k).2.2.1 := (M3.1 k hk).2.2.1
      rw [c2] at s137
      rw [c3] at s138
      have md := nI_mod (a := 10 * c + k) (b := 10) (by omega) (by omega) (by omega)
      rw [show nI 10 = (10 : Int32) from rfl, show (10 * c + k) % 10 = k by omega] at md
      have nn : ∀ j, j ≤ 2 → ¬ nI (10 * c + k) = Int32.ofNat j := fun j hj e => by
        have : nI (10 * c + k) = nI j := e
        have := (nI_eq (by omega) (by omega)).mp this
        omega
      have s91 : rW 99 91 (38, (0, 0), [some (rz_r (some 109)), some (rz_i (nI n)), some (rz_i (nI (10 * c + k))), none], [], m1) = rW 99 91 (52, (0, 0), [some (rz_r (some 109)), some (rz_i (nI n)), some (rz_i (nI (10 * c + k))), none], [], m1) := by
        rw [X91_38]
        simp only [cd_d]
        rw [if_neg (nn 0 (by omega)), if_neg (nn 1 (by omega)), if_neg (nn 2 (by omega))]
      have s6 : rW 99 6 (43, (0, 0), [some (rz_r (some 0)), some (rz_i (nI n)), some (rz_i (nI (10 * c + k))), some (rz_i (nI Z.2.2.2)), none], [], k1) = rW 99 6 (72, (0, 0), [some (rz_r (some 0)), some (rz_i (nI n)), some (rz_i (nI (10 * c + k))), some (rz_i (nI Z.2.2.2)), some (rz_r (some (55 + 2 + 3 * k)))], [], k1) := by
        rw [X6_43]
        simp (disch := omega) only [↓cd_d, ↓irem_eq_mod, ↓ob_setI, ↓ob_chI, ↓ob_some, bI_some, bV_some, bR_some, bL_some, ob_some, cd_t, cd_f, okO_setI, okA_setI, okL_setI, aLen_setI, hR_setI, hI_setI, Bool.true_and, Bool.and_true, Bool.and_self, Option.isNone_some, Option.isSome_some, Option.isNone_none, Option.isSome_none, okO_chI, okA_chI, okL_chI, aLen_chI, hR_chI, ↓reduceIte, not_true_eq_false, not_false_eq_true, eq_self, c10, Nat.zero_add, nI_add, litA, litB, litM, nI_mul, nI_leI, nI_ltI, nI_eq, litLe, litLe2, litLt, litLt2, litEq, litEq2, in_nI, lit_in, nI_clamp, lit_cl, if_pos, if_neg, X6_48, X6_61, ↓WCb w1, WRt w1, md, c181b, X6_68]
      rcases hc with rfl | rfl | rfl
      · refine hex (nI (Z.1 k).2.1) ?_ ?_
        · rw [g1]
          refine cl _ _ ?_
          rw [s6, X6_72]
          simp (disch := omega) only [↓cd_d, ↓irem_eq_mod, ↓ob_setI, ↓ob_chI, ↓ob_some, bI_some, bV_some, bR_some, bL_some, ob_some, cd_t, cd_f, okO_setI, okA_setI, okL_setI, aLen_setI, hR_setI, hI_setI, Bool.true_and, Bool.and_true, Bool.and_self, Option.isNone_some, Option.isSome_some, Option.isNone_none, Option.isSome_none, okO_chI, okA_chI, okL_chI, aLen_chI, hR_chI, ↓reduceIte, not_true_eq_false, not_false_eq_true, eq_self, c10, Nat.zero_add, nI_add, litA, litB, litM, nI_mul, nI_leI, nI_ltI, nI_eq, litLe, litLe2, litLt, litLt2, litEq, litEq2, in_nI, lit_in, nI_clamp, lit_cl, if_pos, if_neg, X6_75, WD w1 hd, s137]
        · rw [g2]
          refine ml _ _ ?_
          rw [s91, X91_52]
          have u : nI (264 + (10 * 1 + k)) - (10 : Int32) = nI (264 + k) := by
            have := nI_sub (a := 264 + (10 * 1 + k)) (b := 10) (by omega)
            rw [show 264 + (10 * 1 + k) - 10 = 264 + k by omega] at this
            exact this
          simp (disch := omega) only [↓cd_d, ↓irem_eq_mod, ↓ob_setI, ↓ob_chI, ↓ob_some, bI_some, bV_some, bR_some, bL_some, ob_some, cd_t, cd_f, okO_setI, okA_setI, okL_setI, aLen_setI, hR_setI, hI_setI, Bool.true_and, Bool.and_true, Bool.and_self, Option.isNone_some, Option.isSome_some, Option.isNone_none, Option.isSome_none, okO_chI, okA_chI, okL_chI, aLen_chI, hR_chI, ↓reduceIte, not_true_eq_false, not_false_eq_true, eq_self, c10, Nat.zero_add, nI_add, litA, litB, litM, nI_mul, nI_leI, nI_ltI, nI_eq, litLe, litLe2, litLt, litLt2, litEq, litEq2, in_nI, lit_in, nI_clamp, lit_cl, if_pos, if_neg, X91_55, ↓WMb v1, WMd v1, u, q2]
      · refine hex (nI (Z.1 k).2.2.1) ?_ ?_
        · rw [g1]
          refine cl _ _ ?_
          rw [s6, X6_72]
          simp (disch := omega) only [↓cd_d, ↓irem_eq_mod, ↓ob_setI, ↓ob_chI, ↓ob_some, bI_some, bV_some, bR_some, bL_some, ob_some, cd_t, cd_f, okO_setI, okA_setI, okL_setI, aLen_setI, hR_setI, hI_setI, Bool.true_and, Bool.and_true, Bool.and_self, Option.isNone_some, Option.isSome_some, Option.isNone_none, Option.isSome_none, okO_chI, okA_chI, okL_chI, aLen_chI, hR_chI, ↓reduceIte, not_true_eq_false, not_false_eq_true, eq_self, c10, Nat.zero_add, nI_add, litA, litB, litM, nI_mul, nI_leI, nI_ltI, nI_eq, litLe, litLe2, litLt, litLt2, litEq, litEq2, in_nI, lit_in, nI_clamp, lit_cl, if_pos, if_neg, X6_78, X6_81, WD w1 hd, s138]
        · rw [g2]
          refine ml _ _ ?_
          rw [s91, X91_52]
          have u : nI (272 + (10 * 2 + k)) - (20 : Int32) = nI (272 + k) := by
            have := nI_sub (a := 272 + (10 * 2 + k)) (b := 20) (by omega)
            rw [show 272 + (10 * 2 + k) - 20 = 272 + k by omega] at this
            exact this
          simp (disch := omega) only [↓cd_d, ↓irem_eq_mod, ↓ob_setI, ↓ob_chI, ↓ob_some, bI_some, bV_some, bR_some, bL_some, ob_some, cd_t, cd_f, okO_setI, okA_setI, okL_setI, aLen_setI, hR_setI, hI_setI, Bool.true_and, Bool.and_true, Bool.and_self, Option.isNone_some, Option.isSome_some, Option.isNone_none, Option.isSome_none, okO_chI, okA_chI, okL_chI, aLen_chI, hR_chI, ↓reduceIte, not_true_eq_false, not_false_eq_true, eq_self, c10, Nat.zero_add, nI_add, litA, litB, litM, nI_mul, nI_leI, nI_ltI, nI_eq, litLe, litLe2, litLt, litLt2, litEq, litEq2, in_nI, lit_in, nI_clamp, lit_cl, if_pos, if_neg, X91_64, X91_67, ↓WMb v1, WMd v1, u, q3]
      · refine hex (nI (gps (Z.1 k).1 (Z.1 k).2.2.2.2.2.2.1 (Z.1 k).2.2.2.2.2.2.2)) ?_ ?_
        · rw [g1]
          refine cl _ _ ?_
          rw [s6, X6_72]
          simp (disch := omega) only [↓cd_d, ↓irem_eq_mod, ↓ob_setI, ↓ob_chI, ↓ob_some, bI_some, bV_some, bR_some, bL_some, ob_some, cd_t, cd_f, okO_setI, okA_setI, okL_setI, aLen_setI, hR_setI, hI_setI, Bool.true_and, Bool.and_true, Bool.and_self, Option.isNone_some, Option.isSome_some, Option.isNone_none, Option.isSome_none, okO_chI, okA_chI, okL_chI, aLen_chI, hR_chI, ↓reduceIte, not_true_eq_false, not_false_eq_true, eq_self, c10, Nat.zero_add, nI_add, litA, litB, litM, nI_mul, nI_leI, nI_ltI, nI_eq, litLe, litLe2, litLt, litLt2, litEq, litEq2, in_nI, lit_in, nI_clamp, lit_cl, if_pos, if_neg, X6_78, X6_84, WD w1 hd, c147]
        · rw [g2]
          refine ml _ _ ?_
          rw [s91, X91_52]
          have u : nI (10 * 3 + k) - (30 : Int32) = nI k := by
            have := nI_sub (a := 10 * 3 + k) (b := 30) (by omega)
            rw [show 10 * 3 + k - 30 = k by omega] at this
            exact this
          simp (disch := omega) only [↓cd_d, ↓irem_eq_mod, ↓ob_setI, ↓ob_chI, ↓ob_some, bI_some, bV_some, bR_some, bL_some, ob_some, cd_t, cd_f, okO_setI, okA_setI, okL_setI, aLen_setI, hR_setI, hI_setI, Bool.true_and, Bool.and_true, Bool.and_self, Option.isNone_some, Option.isSome_some, Option.isNone_none, Option.isSome_none, okO_chI, okA_chI, okL_chI, aLen_chI, hR_chI, ↓reduceIte, not_true_eq_false, not_false_eq_true, eq_self, c10, Nat.zero_add, nI_add, litA, litB, litM, nI_mul, nI_leI, nI_ltI, nI_eq, litLe, litLe2, litLt, litLt2, litEq, litEq2, in_nI, lit_in, nI_clamp, lit_cl, if_pos, if_neg, X91_64, X91_76, WMd v1, u, m44]
    · have zero : ∀ k, k < 8 → ¬ 0 < (D k).1 → hI h (5 + 3 * k) 2 = 0 ∧ hI h 110 (256 + k) = 0 := fun k hk hF => by
        have hF : (D k).1 = 0 := Nat.eq_zero_of_not_pos hF
        have c1 : hI h (3 + 2 + 3 * k) 2 = nI (D k).1 := (C.1 k hk).1
        have m1 : hI h 110 (256 + k) = nI (D k).1 := (M.1 k hk).1
        rw [hF, show 3 + 2 + 3 * k = 5 + 3 * k by omega] at c1
        rw [hF] at m1
        exact ⟨c1, m1⟩
      have dn : ∀ c, (c = 1 ∨ c = 2 ∨ c = 3) → Dn h (y - nI (10 * c)) := fun c hc k hk e => by
        have ey : y = nI (10 * c + k) := by
          have : y - nI (10 * c) + nI (10 * c) = nI k + nI (10 * c) := by rw [e]
          rw [Int32.sub_add_cancel, nI_add, Nat.add_comm] at this
          exact this
        exact zero k hk fun hF => hb ⟨c, k, hc, hk, ey, hF⟩
      have n10 : ∀ d, cW (d + 2) 39 [rz_r (some 109), rz_i (y - 10)] h = some (rz_i 0, h) := fun d => N39 w (dn 1 (Or.inl rfl)) d
      have n20 : ∀ d, cW (d + 2) 39 [rz_r (some 109), rz_i (y - 20)] h = some (rz_i 0, h) := fun d => N39 w (dn 2 (Or.inr (Or.inl rfl))) d
      have n30 : ∀ d, cW (d + 2) 39 [rz_r (some 109), rz_i (y - 30)] h = some (rz_i 0, h) := fun d => N39 w (dn 3 (Or.inr (Or.inr rfl))) d
      have c2 : ¬ ((0 : Int32) ≤ y ∧ y ≤ 2) := fun q => by
        obtain ⟨j, hj, rfl⟩ := nI_of2 (x := y) (M := 2) (n := 2) rfl (Int32.not_lt.mpr q.1) q.2
        rcases (show j = 0 ∨ j = 1 ∨ j = 2 by omega) with rfl | rfl | rfl
        · exact y0 rfl
        · exact y1 rfl
        · exact y2 rfl
      refine ⟨-1, h, h, ?_, ?_, (WMd w).1, r⟩
      · rw [show DD = 99 + 1 from rfl, X6]
        by_cases p1 : y < 0
        · simp (disch := omega) only [↓cd_d, ↓irem_eq_mod, ↓ob_setI, ↓ob_chI, ↓ob_some, bI_some, bV_some, bR_some, bL_some, ob_some, cd_t, cd_f, okO_setI, okA_setI, okL_setI, aLen_setI, hR_setI, hI_setI, Bool.true_and, Bool.and_true, Bool.and_self, Option.isNone_some, Option.isSome_some, Option.isNone_none, Option.isSome_none, okO_chI, okA_chI, okL_chI, aLen_chI, hR_chI, ↓reduceIte, not_true_eq_false, not_false_eq_true, eq_self, c10, Nat.zero_add, nI_add, litA, litB, litM, nI_mul, nI_leI, nI_ltI, nI_eq, litLe, litLe2, litLt, litLt2, litEq, litEq2, in_nI, lit_in, nI_clamp, lit_cl, if_pos, if_neg, h1, h2, X6_3, X6_6, p1, X6_17]
        · by_cases p2 : (40 : Int32) ≤ y
          · simp (disch := omega) only [↓cd_d, ↓irem_eq_mod, ↓ob_setI, ↓ob_chI, ↓ob_some, bI_some, bV_some, bR_some, bL_some, ob_some, cd_t, cd_f, okO_setI, okA_setI, okL_setI, aLen_setI, hR_setI, hI_setI, Bool.true_and, Bool.and_true, Bool.and_self, Option.isNone_some, Option.isSome_some, Option.isNone_none, Option.isSome_none, okO_chI, okA_chI, okL_chI, aLen_chI, hR_chI, ↓reduceIte, not_true_eq_false, not_false_eq_true, eq_self, c10, Nat.zero_add, nI_add, litA, litB, litM, nI_mul, nI_leI, nI_ltI, nI_eq, litLe, litLe2, litLt, litLt2, litEq, litEq2, in_nI, lit_in, nI_clamp, lit_cl, if_pos, if_neg, h1, h2, X6_3, X6_6, p1, X6_8, p2, X6_17]
          · have p3 : ¬ y ≤ 2 := fun q => c2 ⟨Int32.not_lt.mp p1, q⟩
            by_cases p4 : (10 : Int32) ≤ y
            · have p5 : ¬ y < 10 := Int32.not_lt.mpr p4
              obtain ⟨m, hm, rfl⟩ := nI_of p1
              have m40 : m < 40 := Nat.not_le.mp fun q => p2 (nI_le (a := 40) q hm)
              have m10 : 10 ≤ m := (nI_leI (a := 10) (by omega) hm).mp p4
              have md := nI_mod (a := m) (b := 10) (by omega) (by omega) (by omega)
              rw [show nI 10 = (10 : Int32) from rfl] at md
              have dk : Dn h (nI (m % 10)) := fun k hk e => by
                have ek := (nI_eq (by omega) (by omega)).mp e
                exact zero k hk fun hF => hb ⟨m / 10, k, by omega, hk, by rw [show 10 * (m / 10) + k = m by omega], hF⟩
              simp only [bI_some, bV_some, bR_some, bL_some, ob_some, cd_t, cd_f, cd_d, okO_setI, okA_setI, okL_setI, aLen_setI, hR_setI, hI_setI, Bool.true_and, Bool.and_true, Bool.and_self, Option.isNone_some, Option.isSome_some, Option.isNone_none, Option.isSome_none, okO_chI, okA_chI, okL_chI, aLen_chI, hR_chI, ↓reduceIte, not_true_eq_false, not_false_eq_true, eq_self, c10, ↓irem_eq_mod, h1, h2, X6_3, X6_6, p1, X6_8, p2, X6_11, p3, X6_14, p4, X6_19, p5, X6_22, ↓WCb w, WRt w, md, N181 w dk, X6_29]
            · simp (disch := omega) only [↓cd_d, ↓irem_eq_mod, ↓ob_setI, ↓ob_chI, ↓ob_some, bI_some, bV_some, bR_some, bL_some, ob_some, cd_t, cd_f, okO_setI, okA_setI, okL_setI, aLen_setI, hR_setI, hI_setI, Bool.true_and, Bool.and_true, Bool.and_self, Option.isNone_some, Option.isSome_some, Option.isNone_none, Option.isSome_none, okO_chI, okA_chI, okL_chI, aLen_chI, hR_chI, ↓reduceIte, not_true_eq_false, not_false_eq_true, eq_self, c10, Nat.zero_add, nI_add, litA, litB, litM, nI_mul, nI_leI, nI_ltI, nI_eq, litLe, litLe2, litLt, litLt2, litEq, litEq2, in_nI, lit_in, nI_clamp, lit_cl, if_pos, if_neg, h1, h2, X6_3, X6_6, p1, X6_8, p2, X6_11, p3, X6_14, p4, X6_17]
      · rw [show DD = 99 + 1 from rfl, X91]
        simp only [bI_some, bV_some, bR_some, bL_some, ob_some, cd_t, cd_f, cd_d, okO_setI, okA_setI, okL_setI, aLen_setI, hR_setI, hI_setI, Bool.true_and, Bool.and_true, Bool.and_self, Option.isNone_some, Option.isSome_some, Option.isNone_none, Option.isSome_none, okO_chI, okA_chI, okL_chI, aLen_chI, hR_chI, ↓reduceIte, not_true_eq_false, not_false_eq_true, eq_self, c10, S33, if_pos hx, X91_5, if_neg c2, X91_10, WMd w, n10, X91_16, n20, X91_22, n30, X91_28]
  · refine ⟨-1, h, h, ?_, ?_, (WMd w).1, r⟩
    · rw [show DD = 99 + 1 from rfl, X6]
      by_cases h1 : x < 1
      · simp only [bI_some, bV_some, bR_some, bL_some, ob_some, cd_t, cd_f, cd_d, okO_setI, okA_setI, okL_setI, aLen_setI, hR_setI, hI_setI, Bool.true_and, Bool.and_true, Bool.and_self, Option.isNone_some, Option.isSome_some, Option.isNone_none, Option.isSome_none, okO_chI, okA_chI, okL_chI, aLen_chI, hR_chI, ↓reduceIte, not_true_eq_false, not_false_eq_true, eq_self, c10, if_pos h1, X6_17]
      · have h2 : (240 : Int32) < x := Int32.not_le.mp fun e => hx ⟨Int32.not_lt.mp h1, e⟩
        simp only [bI_some, bV_some, bR_some, bL_some, ob_some, cd_t, cd_f, cd_d, okO_setI, okA_setI, okL_setI, aLen_setI, hR_setI, hI_setI, Bool.true_and, Bool.and_true, Bool.and_self, Option.isNone_some, Option.isSome_some, Option.isNone_none, Option.isSome_none, okO_chI, okA_chI, okL_chI, aLen_chI, hR_chI, ↓reduceIte, not_true_eq_false, not_false_eq_true, eq_self, c10, if_neg h1, X6_3, if_pos h2, X6_17]
    · rw [show DD = 99 + 1 from rfl, X91]
      simp only [bI_some, bV_some, bR_some, bL_some, ob_some, cd_t, cd_f, cd_d, okO_setI, okA_setI, okL_setI, aLen_setI, hR_setI, hI_setI, Bool.true_and, Bool.and_true, Bool.and_self, Option.isNone_some, Option.isSome_some, Option.isNone_none, Option.isSome_none, okO_chI, okA_chI, okL_chI, aLen_chI, hR_chI, ↓reduceIte, not_true_eq_false, not_false_eq_true, eq_self, c10, S33, if_neg hx, X91_28]
