/-! orders: the pair -/
theorem K82 {rb dr : Nat} {jd : Option Nat} {h : rz_H} (w : Wf rb dr jd h) {N : Nat} {t : Nat → Nat} {L p : Nat} (m : MT h N t L p) (hp : p ≤ L) (h120 : L ≤ 120) {D : Nat → TU} {tk x : Nat} (O : LO D tk x) (M : LM h D tk x) {n : Nat} (e35 : hI h 109 35 = nI n) (hn : n ≤ 20) (d : Nat) : ∃ b h', cW (d + 5) 82 [rz_r (some 109)] h = some (rz_i b, h') ∧ Gm h h' ∧ ((∃ e, lnT t L (fun k => (D k).1) p n = Sum.inl e ∧ b = 0 ∧ hI h' 109 7 = erI e.1 e.2) ∨ (∃ q, lnT t L (fun k => (D k).1) p n = Sum.inr q ∧ b = 1 ∧ MT h' N t L q.1 ∧ hI h' 109 35 = nI (n + 1) ∧ LM h' (apL q.2 D) tk x)) := by
  have hb := m.b p
  have p48 : pkI t L p < 48 ↔ (p < L → t p < 48) := pkk_lt (m := 48) hb (by omega)
  have p55 : (55 : Int32) < pkI t L p ↔ p < L ∧ 55 < t p := pkk_gt (m := 55) hb (by omega)
  have e5 := m.2.2.2.1
  have st : cW (d + 5) 82 [rz_r (some 109)] h = rW (d + 4) 82 (3, (0, 0), [some (rz_r (some 109)), some (rz_i (nI p)), none, none], [], h) := by
    rw [X82]
    simp only [bI_some, bV_some, bR_some, bL_some, ob_some, cd_t, cd_f, cd_d, okO_setI, okA_setI, okL_setI, aLen_setI, hR_setI, hI_setI, Bool.true_and, Bool.and_true, Bool.and_self, Option.isNone_some, Option.isSome_some, Option.isNone_none, Option.isSome_none, okO_chI, okA_chI, okL_chI, aLen_chI, hR_chI, ↓reduceIte, not_true_eq_false, not_false_eq_true, eq_self, c10, WMd w, e5]
  rw [st, X82_3, K49 w m]
  unfold lnT
  by_cases c : p < L ∧ 48 ≤ t p ∧ t p ≤ 55
  · rw [if_pos c]
    have n1 : (48 : Int32) ≤ pkI t L p ∧ pkI t L p ≤ 55 := ⟨Int32.not_lt.mp fun z => by
      have := p48.mp z c.1
      omega, Int32.not_lt.mp fun z => by
      have := p55.mp z
      omega⟩
    simp only [bI_some, bV_some, bR_some, bL_some, ob_some, cd_t, cd_f, cd_d, okO_setI, okA_setI, okL_setI, aLen_setI, hR_setI, hI_setI, Bool.true_and, Bool.and_true, Bool.and_self, Option.isNone_some, Option.isSome_some, Option.isNone_none, Option.isSome_none, okO_chI, okA_chI, okL_chI, aLen_chI, hR_chI, ↓reduceIte, not_true_eq_false, not_false_eq_true, eq_self, c10, WMd w, S33, if_pos n1, c10]
    rw [X82_15, e35]
    by_cases c2 : n < 20
    · rw [if_pos c2]
      have g : ¬ nI n = (20 : Int32) := fun z => by
        have := (nI_eq (a := n) (b := 20) (by omega) (by omega)).mp z
        omega
      simp only [bI_some, bV_some, bR_some, bL_some, ob_some, cd_t, cd_f, cd_d, okO_setI, okA_setI, okL_setI, aLen_setI, hR_setI, hI_setI, Bool.true_and, Bool.and_true, Bool.and_self, Option.isNone_some, Option.isSome_some, Option.isNone_none, Option.isSome_none, okO_chI, okA_chI, okL_chI, aLen_chI, hR_chI, ↓reduceIte, not_true_eq_false, not_false_eq_true, eq_self, c10, WMd w, g]
      have k8 : t p - 48 < 8 := by omega
      have u : nI (t p) - 48 = nI (t p - 48) := nI_sub (b := 48) (by omega)
      let h1 := setI h 109 35 (nI (n + 1))
      let h2 := setI h1 109 5 (nI (p + 1))
      let h3 := setI h2 109 5 (nI (p + 2))
      have w1 : Wf rb dr jd h1 := w
      have w2 : Wf rb dr jd h2 := w
      have w3 : Wf rb dr jd h3 := w
      have o1 : ∀ b i, ¬ (b = 109 ∧ i = 35) → hI h1 b i = hI h b i := fun b i z => by
        show hI (setI h 109 35 _) b i = _
        rw [hI_setI, if_neg z]
      have o2 : ∀ b i, ¬ (b = 109 ∧ i = 5) → hI h2 b i = hI h1 b i := fun b i z => by
        show hI (setI h1 109 5 _) b i = _
        rw [hI_setI, if_neg z]
      have o3 : ∀ b i, ¬ (b = 109 ∧ i = 5) → hI h3 b i = hI h2 b i := fun b i z => by
        show hI (setI h2 109 5 _) b i = _
        rw [hI_setI, if_neg z]
      have m1 : MT h1 N t L p := m.fm (fun b i hb => o1 b i (by omega)) ((o1 109 5 (by omega)).trans e5) (by omega)
      have m2 : MT h2 N t L (p + 1) := m1.fm (fun b i hb => o2 b i (by omega)) (by show hI (setI h1 109 5 _) 109 5 = _; rw [hI_setI, if_pos ⟨rfl, rfl⟩]) (by omega)
      have m3 : MT h3 N t L (p + 2) := m2.fm (fun b i hb => o3 b i (by omega)) (by show hI (setI h2 109 5 _) 109 5 = _; rw [hI_setI, if_pos ⟨rfl, rfl⟩]) (by omega)
      have G2 : Gm h h2 := (Gm.one (by omega) _).tr (Gm.one (by omega) _)
      have G3 : Gm h h3 := G2.tr (Gm.one (by omega) _)
      have M2 : LM h2 D tk x := M.to fun i => (o2 110 i (by omega)).trans (o1 110 i (by omega))
      have M3 : LM h3 D tk x := M2.to fun i => o3 110 i (by omega)
      have v35 : hI h3 109 35 = nI (n + 1) := by
        rw [o3 109 35 (by omega), o2 109 35 (by omega)]
        show hI (setI h 109 35 _) 109 35 = _
        rw [hI_setI, if_pos ⟨rfl, rfl⟩]
      have st2 : rW (d + 4) 82 (25, (0, 0), [some (rz_r (some 109)), some (rz_i (nI p)), none, none], [], h) = rW (d + 4) 82 (45, (0, 0), [some (rz_r (some 109)), some (rz_i (nI p)), some (rz_i (nI (t p - 48))), some (rz_i (pkI t L (p + 1)))], [], h2) := by
        rw [X82_25, e35]
        simp only [cd_t, (WMd w).1, nI_1]
        rw [show setI h 109 35 (nI (n + 1)) = h1 from rfl, X82_31, K49 w1 m1, pkk_in c.1]
        simp only [bI_some, cd_t, (WMd w1).1, u]
        rw [X82_36, m1.2.2.2.1]
        simp only [cd_t, (WMd w1).1, nI_1]
        rw [show setI h1 109 5 (nI (p + 1)) = h2 from rfl, X82_42, K49 w2 m2]
        simp only [bI_some, cd_t, (WMd w2).1]
      rw [st2]
      have hb1 := m.b (p + 1)
      have pe := fun m (hm : m < 1000) => pkk_eq (t := t) (L := L) (p := p + 1) (m := m) hb1 hm
      show ∃ b h', _ ∧ Gm h h' ∧ ((∃ e, (match orT t L (D (t p - 48)).1 p with
          | .inl e => Sum.inl e
          | .inr q => Sum.inr (q.1, t p - 48, t (p + 1), q.2.1, q.2.2)) = Sum.inl e ∧ _) ∨ (∃ q, (match orT t L (D (t p - 48)).1 p with
          | .inl e => Sum.inl e
          | .inr q => Sum.inr (q.1, t p - 48, t (p + 1), q.2.1, q.2.2)) = Sum.inr q ∧ _))
      by_cases c3 : p + 1 < L ∧ sgT (t (p + 1)) = true
      · have sg : t (p + 1) = 33 ∨ t (p + 1) = 63 ∨ t (p + 1) = 64 ∨ t (p + 1) = 35 ∨ t (p + 1) = 43 ∨ t (p + 1) = 45 := of_decide_eq_true c3.2
        have st3 : rW (d + 4) 82 (45, (0, 0), [some (rz_r (some 109)), some (rz_i (nI p)), some (rz_i (nI (t p - 48))), some (rz_i (pkI t L (p + 1)))], [], h2) = rW (d + 4) 82 (69, (0, 0), [some (rz_r (some 109)), some (rz_i (nI p)), some (rz_i (nI (t p - 48))), some (rz_i (nI (t (p + 1))))], [], h2) := by
          rw [pkk_in c3.1]
          generalize t (p + 1) = z at sg
          generalize h2 = g
          rcases sg with rfl | rfl | rfl | rfl | rfl | rfl
          · simp only [bI_some, bV_some, bR_some, bL_some, ob_some, cd_t, cd_f, cd_d, okO_setI, okA_setI, okL_setI, aLen_setI, hR_setI, hI_setI, Bool.true_and, Bool.and_true, Bool.and_self, Option.isNone_some, Option.isSome_some, Option.isNone_none, Option.isSome_none, okO_chI, okA_chI, okL_chI, aLen_chI, hR_chI, ↓reduceIte, not_true_eq_false, not_false_eq_true, eq_self, c10, show nI 33 = (33 : Int32) from rfl, X82_45, X82_48, X82_51, X82_54, lits]
          · simp only [bI_some, bV_some, bR_some, bL_some, ob_some, cd_t, cd_f, cd_d, okO_setI, okA_setI, okL_setI, aLen_setI, hR_setI, hI_setI, Bool.true_and, Bool.and_true, Bool.and_self, Option.isNone_some, Option.isSome_some, Option.isNone_none, Option.isSome_none, okO_chI, okA_chI, okL_chI, aLen_chI, hR_chI, ↓reduceIte, not_true_eq_false, not_false_eq_true, eq_self, c10, show nI 63 = (63 : Int32) from rfl, X82_45, X82_48, X82_51, X82_54, X82_57, lits]
          · simp only [bI_some, bV_some, bR_some, bL_some, ob_some, cd_t, cd_f, cd_d, okO_setI, okA_setI, okL_setI, aLen_setI, hR_setI, hI_setI, Bool.true_and, Bool.and_true, Bool.and_self, Option.isNone_some, Option.isSome_some, Option.isNone_none, Option.isSome_none, okO_chI, okA_chI, okL_chI, aLen_chI, hR_chI, ↓reduceIte, not_true_eq_false, not_false_eq_true, eq_self, c10, show nI 64 = (64 : Int32) from rfl, X82_45, X82_48, X82_51, lits]
          · simp only [bI_some, bV_some, bR_some, bL_some, ob_some, cd_t, cd_f, cd_d, okO_setI, okA_setI, okL_setI, aLen_setI, hR_setI, hI_setI, Bool.true_and, Bool.and_true, Bool.and_self, Option.isNone_some, Option.isSome_some, Option.isNone_none, Option.isSome_none, okO_chI, okA_chI, okL_chI, aLen_chI, hR_chI, ↓reduceIte, not_true_eq_false, not_false_eq_true, eq_self, c10, show nI 35 = (35 : Int32) from rfl, X82_45, X82_48, X82_51, X82_54, X82_57, X82_60, lits]
          · simp only [bI_some, bV_some, bR_some, bL_some, ob_some, cd_t, cd_f, cd_d, okO_setI, okA_setI, okL_setI, aLen_setI, hR_setI, hI_setI, Bool.true_and, Bool.and_true, Bool.and_self, Option.isNone_some, Option.isSome_some, Option.isNone_none, Option.isSome_none, okO_chI, okA_chI, okL_chI, aLen_chI, hR_chI, ↓reduceIte, not_true_eq_false, not_false_eq_true, eq_self, c10, show nI 43 = (43 : Int32) from rfl, X82_45]
          · simp only [bI_some, bV_some, bR_some, bL_some, ob_some, cd_t, cd_f, cd_d, okO_setI, okA_setI, okL_setI, aLen_setI, hR_setI, hI_setI, Bool.true_and, Bool.and_true, Bool.and_self, Option.isNone_some, Option.isSome_some, Option.isNone_none, Option.isSome_none, okO_chI, okA_chI, okL_chI, aLen_chI, hR_chI, ↓reduceIte, not_true_eq_false, not_false_eq_true, eq_self, c10, show nI 45 = (45 : Int32) from rfl, X82_45, X82_48, lits]
        rw [st3]
        have m39 := fun d => M39 w2 k8 (O.1 _ k8) (M2.1 _ k8) d
        rw [X82_69]
        by_cases c4 : (D (t p - 48)).1 = 0
        · have eo : orT t L (D (t p - 48)).1 p = Sum.inl (7, p) := by
            unfold orT
            rw [if_pos c3, if_pos c4]
          rw [eo]
          rw [decide_eq_false (show ¬ 0 < (D (t p - 48)).1 by omega)] at m39
          have m39 : ∀ d, cW (d + 2) 39 [rz_r (some 109), rz_i (nI (t p - 48))] h2 = some (rz_i 0, h2) := m39
          have k51 := fun d => K51 w2 7 p d
          rw [show nI 7 = (7 : Int32) from rfl] at k51
          refine ⟨0, setI h2 109 7 (erI 7 p), ?_, G2.tr (Gm.one (by omega) _), Or.inl ⟨_, rfl, rfl, by rw [hI_setI, if_pos ⟨rfl, rfl⟩]⟩⟩
          have ok := (WMd w2).1
          generalize h2 = g at *
          simp only [bI_some, bV_some, bR_some, bL_some, ob_some, cd_t, cd_f, cd_d, okO_setI, okA_setI, okL_setI, aLen_setI, hR_setI, hI_setI, Bool.true_and, Bool.and_true, Bool.and_self, Option.isNone_some, Option.isSome_some, Option.isNone_none, Option.isSome_none, okO_chI, okA_chI, okL_chI, aLen_chI, hR_chI, ↓reduceIte, not_true_eq_false, not_false_eq_true, eq_self, c10, ok, m39]
          rw [X82_73]
          simp only [bI_some, bV_some, bR_some, bL_some, ob_some, cd_t, cd_f, cd_d, okO_setI, okA_setI, okL_setI, aLen_setI, hR_setI, hI_setI, Bool.true_and, Bool.and_true, Bool.and_self, Option.isNone_some, Option.isSome_some, Option.isNone_none, Option.isSome_none, okO_chI, okA_chI, okL_chI, aLen_chI, hR_chI, ↓reduceIte, not_true_eq_false, not_false_eq_true, eq_self, c10, ok, k51]
          rfl
        · rw [decide_eq_true (show 0 < (D (t p - 48)).1 by omega)] at m39
          have m39 : ∀ d, cW (d + 2) 39 [rz_r (some 109), rz_i (nI (t p - 48))] h2 = some (rz_i 1, h2) := m39
          obtain ⟨b, h', e, oG, o35, oo⟩ := K82s w3 m3 (by omega) h120 O M3 k8 (by omega) sg d
          have eo : orT t L (D (t p - 48)).1 p = (if t (p + 1) = 33 ∨ t (p + 1) = 63 then Sum.inr (p + 2, 0, 16) else match numT t L 3 (p + 2) with
            | .inl e => Sum.inl e
            | .inr q => tl55 t L (D (t p - 48)).1 p (t (p + 1)) q) := by
            unfold orT
            rw [if_pos c3, if_neg c4]
            rfl
          have oo : (∃ e, orT t L (D (t p - 48)).1 p = Sum.inl e ∧ b = 0 ∧ hI h' 109 7 = erI e.1 e.2) ∨ (∃ q, orT t L (D (t p - 48)).1 p = Sum.inr q ∧ b = 1 ∧ MT h' N t L q.1 ∧ LM h' (apL (t p - 48, t (p + 1), q.2.1, q.2.2) D) tk x) := by
            rw [eo]
            exact oo
          refine ⟨b, h', ?_, G3.tr oG, ?_⟩
          · rw [← e]
            have ok := (WMd w2).1
            have q5 := m2.2.2.2.1
            have e3 : setI h2 109 5 (nI (p + 2)) = h3 := rfl
            have u5 : nI (p + 1) + 1 = nI (p + 2) := by rw [nI_1]
            generalize h2 = g at *
            simp only [bI_some, bV_some, bR_some, bL_some, ob_some, cd_t, cd_f, cd_d, okO_setI, okA_setI, okL_setI, aLen_setI, hR_setI, hI_setI, Bool.true_and, Bool.and_true, Bool.and_self, Option.isNone_some, Option.isSome_some, Option.isNone_none, Option.isSome_none, okO_chI, okA_chI, okL_chI, aLen_chI, hR_chI, ↓reduceIte, not_true_eq_false, not_false_eq_true, eq_self, c10, ok, m39, c10]
            rw [X82_78, q5, u5]
            simp only [cd_t, ok]
            rw [e3]
          · rcases oo with ⟨e, he, r1, r2⟩ | ⟨q, hq, r1, r2, r3⟩
            · rw [he]
              exact Or.inl ⟨e, rfl, r1, r2⟩
            · rw [hq]
              exact Or.inr ⟨_, rfl, r1, r2, o35.trans v35, r3⟩
      · have eo : orT t L (D (t p - 48)).1 p = Sum.inl (1, p + 1) := by
          unfold orT
          rw [if_neg c3]
        rw [eo]
        have no : ∀ m, m < 1000 → sgT m = true → ¬ pkI t L (p + 1) = nI m := fun m hm hs z => by
          have := (pe m hm).mp z
          exact c3 ⟨this.1, by rw [this.2]; exact hs⟩
        have n1 : ¬ pkI t L (p + 1) = 33 := no 33 (by omega) rfl
        have n2 : ¬ pkI t L (p + 1) = 63 := no 63 (by omega) rfl
        have n3 : ¬ pkI t L (p + 1) = 64 := no 64 (by omega) rfl
        have n4 : ¬ pkI t L (p + 1) = 35 := no 35 (by omega) rfl
        have n5 : ¬ pkI t L (p + 1) = 43 := no 43 (by omega) rfl
        have n6 : ¬ pkI t L (p + 1) = 45 := no 45 (by omega) rfl
        have k51 := fun d => K51 w2 1 (p + 1) d
        rw [show nI 1 = (1 : Int32) from rfl] at k51
        refine ⟨0, setI h2 109 7 (erI 1 (p + 1)), ?_, G2.tr (Gm.one (by omega) _), Or.inl ⟨_, rfl, rfl, by rw [hI_setI, if_pos ⟨rfl, rfl⟩]⟩⟩
        have ok := (WMd w2).1
        have q5 := m2.2.2.2.1
        generalize h2 = g at *
        simp only [bI_some, bV_some, bR_some, bL_some, ob_some, cd_t, cd_f, cd_d, okO_setI, okA_setI, okL_setI, aLen_setI, hR_setI, hI_setI, Bool.true_and, Bool.and_true, Bool.and_self, Option.isNone_some, Option.isSome_some, Option.isNone_none, Option.isSome_none, okO_chI, okA_chI, okL_chI, aLen_chI, hR_chI, ↓reduceIte, not_true_eq_false, not_false_eq_true, eq_self, c10, X82_45, X82_48, X82_51, X82_54, X82_57, X82_60, n1, n2, n3, n4, n5, n6]
        rw [X82_63, q5]
        simp only [bI_some, bV_some, bR_some, bL_some, ob_some, cd_t, cd_f, cd_d, okO_setI, okA_setI, okL_setI, aLen_setI, hR_setI, hI_setI, Bool.true_and, Bool.and_true, Bool.and_self, Option.isNone_some, Option.isSome_some, Option.isNone_none, Option.isSome_none, okO_chI, okA_chI, okL_chI, aLen_chI, hR_chI, ↓reduceIte, not_true_eq_false, not_false_eq_true, eq_self, c10, ok, k51]
        rfl
    · rw [if_neg c2]
      have hn2 : n = 20 := by omega
      subst hn2
      have k51 := fun d => K51 w 4 p d
      rw [show nI 4 = (4 : Int32) from rfl] at k51
      refine ⟨0, setI h 109 7 (erI 4 p), ?_, Gm.one (by omega) _, Or.inl ⟨_, rfl, rfl, by rw [hI_setI, if_pos ⟨rfl, rfl⟩]⟩⟩
      simp only [bI_some, bV_some, bR_some, bL_some, ob_some, cd_t, cd_f, cd_d, okO_setI, okA_setI, okL_setI, aLen_setI, hR_setI, hI_setI, Bool.true_and, Bool.and_true, Bool.and_self, Option.isNone_some, Option.isSome_some, Option.isNone_none, Option.isSome_none, okO_chI, okA_chI, okL_chI, aLen_chI, hR_chI, ↓reduceIte, not_true_eq_false, not_false_eq_true, eq_self, c10, WMd w, show nI 20 = (20 : Int32) from rfl]
      rw [X82_19, e5]
      simp only [bI_some, bV_some, bR_some, bL_some, ob_some, cd_t, cd_f, cd_d, okO_setI, okA_setI, okL_setI, aLen_setI, hR_setI, hI_setI, Bool.true_and, Bool.and_true, Bool.and_self, Option.isNone_some, Option.isSome_some, Option.isNone_none, Option.isSome_none, okO_chI, okA_chI, okL_chI, aLen_chI, hR_chI, ↓reduceIte, not_true_eq_false, not_false_eq_true, eq_self, c10, WMd w, k51]
      rfl
  · rw [if_neg c]
    have n1 : ¬ ((48 : Int32) ≤ pkI t L p ∧ pkI t L p ≤ 55) := fun z => c (by
      have q1 : ¬ pkI t L p < 48 := Int32.not_lt.mpr z.1
      have q2 : ¬ (55 : Int32) < pkI t L p := Int32.not_lt.mpr z.2
      have hp : p < L := Classical.byContradiction fun y => q1 (p48.mpr fun x => absurd x y)
      have a1 : ¬ t p < 48 := fun y => q1 (p48.mpr fun _ => y)
      have a2 : ¬ 55 < t p := fun y => q2 (p55.mpr ⟨hp, y⟩)
      exact ⟨hp, by omega, by omega⟩)
    have k51 := fun d => K51 w 1 p d
    rw [show nI 1 = (1 : Int32) from rfl] at k51
    refine ⟨0, setI h 109 7 (erI 1 p), ?_, Gm.one (by omega) _, Or.inl ⟨_, rfl, rfl, by rw [hI_setI, if_pos ⟨rfl, rfl⟩]⟩⟩
    simp only [bI_some, bV_some, bR_some, bL_some, ob_some, cd_t, cd_f, cd_d, okO_setI, okA_setI, okL_setI, aLen_setI, hR_setI, hI_setI, Bool.true_and, Bool.and_true, Bool.and_self, Option.isNone_some, Option.isSome_some, Option.isNone_none, Option.isSome_none, okO_chI, okA_chI, okL_chI, aLen_chI, hR_chI, ↓reduceIte, not_true_eq_false, not_false_eq_true, eq_self, c10, WMd w, S33, if_neg n1]
    rw [X82_9, e5]
    simp only [bI_some, bV_some, bR_some, bL_some, ob_some, cd_t, cd_f, cd_d, okO_setI, okA_setI, okL_setI, aLen_setI, hR_setI, hI_setI, Bool.true_and, Bool.and_true, Bool.and_self, Option.isNone_some, Option.isSome_some, Option.isNone_none, Option.isSome_none, okO_chI, okA_chI, okL_chI, aLen_chI, hR_chI, ↓reduceIte, not_true_eq_false, not_false_eq_true, eq_self, c10, WMd w, k51]
    rfl
/-- how the model's reading ends -/
def MfO (h0 h' : rz_H) (D : Nat → TU) (tk x : Nat) (b : Int32) (z : (Nat × Nat) ⊕ (Nat × (Nat → LN))) : Prop := Gm h0 h' ∧ ((∃ e, z = Sum.inl e ∧ b = 0 ∧ hI h' 109 7 = erI e.1 e.2) ∨ (∃ q, z = Sum.inr q ∧ b = 1 ∧ hI h' 109 35 = nI q.1 ∧ LM h' (apN q.2 q.1 D) tk x))
theorem T25e (h : rz_H) (d : Nat) (j1 : Option rz_V) : rW d 83 (25, (0, 0), [some (rz_r (some 109)), j1, some (rz_i 0)], [], h) = rW d 83 (44, (0, 0), [some (rz_r (some 109)), none, some (rz_i 0)], [], h) := by
  rw [X83_25]
  simp only [bI_some, bV_some, bR_some, bL_some, ob_some, cd_t, cd_f, cd_d, okO_setI, okA_setI, okL_setI, aLen_setI, hR_setI, hI_setI, Bool.true_and, Bool.and_true, Bool.and_self, Option.isNone_some, Option.isSome_some, Option.isNone_none, Option.isSome_none, okO_chI, okA_chI, okL_chI, aLen_chI, hR_chI, ↓reduceIte, not_true_eq_false, not_false_eq_true, eq_self, c10]
theorem T25 {rb dr : Nat} {jd : Option Nat} {h0 : rz_H} (w0 : Wf rb dr jd h0) {N : Nat} {t : Nat → Nat} {L : Nat} (h120 : L ≤ 120) {D : Nat → TU} {tk x : Nat} (O : LO D tk x) (d : Nat) : ∀ f h p n a, n + f = 21 → n ≤ 20 → Gm h0 h → MT h N t L p → p ≤ L → hI h 109 35 = nI n → (∀ i, i < n → lOk (fun k => (D k).1) (a i)) → LM h (apN a n D) tk x → ∃ b h', (∀ j1, rW (d + 5) 83 (25, (0, 0), [some (rz_r (some 109)), j1, some (rz_i 1)], [], h) = rW (d + 5) 83 (44, (0, 0), [some (rz_r (some 109)), none, some (rz_i b)], [], h')) ∧ MfO h0 h' D tk x b (aft t L (ordT t L (fun k => (D k).1) f) p n a) := by
  intro f
  induction f with
  | zero => intro h p n a hn h20; omega
  | succ f ih =>
    intro h p n a hn h20 G m hp e35 hl M
    have w : Wf rb dr jd h := w0.e G.1
    have e5 := m.2.2.2.1
    have e6 := m.2.2.1
    unfold aft
    have k52 : ∀ d, cW (d + 2) 52 [rz_r (some 109), rz_i 59] h = if p < L ∧ t p = 59 then some (rz_i 1, setI h 109 5 (nI (p + 1))) else some (rz_i 0, setI h 109 7 (erI 1 p)) := fun d => K52 w m (c := 59) (by omega) d
    by_cases c : p < L
    · rw [if_pos c]
      have g : ¬ nI L ≤ nI p := nI_ge (by omega) (by omega)
      have st : ∀ j1, rW (d + 5) 83 (25, (0, 0), [some (rz_r (some 109)), j1, some (rz_i 1)], [], h) = rW (d + 5) 83 (32, (0, 0), [some (rz_r (some 109)), none, some (rz_i 1)], [], h) := fun j1 => by
        rw [X83_25]
        simp only [bI_some, bV_some, bR_some, bL_some, ob_some, cd_t, cd_f, cd_d, okO_setI, okA_setI, okL_setI, aLen_setI, hR_setI, hI_setI, Bool.true_and, Bool.and_true, Bool.and_self, Option.isNone_some, Option.isSome_some, Option.isNone_none, Option.isSome_none, okO_chI, okA_chI, okL_chI, aLen_chI, hR_chI, ↓reduceIte, not_true_eq_false, not_false_eq_true, eq_self, c10, c10]
        rw [X83_27]
        simp only [bI_some, bV_some, bR_some, bL_some, ob_some, cd_t, cd_f, cd_d, okO_setI, okA_setI, okL_setI, aLen_setI, hR_setI, hI_setI, Bool.true_and, Bool.and_true, Bool.and_self, Option.isNone_some, Option.isSome_some, Option.isNone_none, Option.isSome_none, okO_chI, okA_chI, okL_chI, aLen_chI, hR_chI, ↓reduceIte, not_true_eq_false, not_false_eq_true, eq_self, c10, WMd w, e5, e6, g]
      by_cases c2 : t p = 59
      · rw [if_pos c2]
        let h1 := setI h 109 5 (nI (p + 1))
        have w1 : Wf rb dr jd h1 := w
        have o1 : ∀ b i, ¬ (b = 109 ∧ i = 5) → hI h1 b i = hI h b i := fun b i z => by
          show hI (setI h 109 5 _) b i = _
          rw [hI_setI, if_neg z]
        have m1 : MT h1 N t L (p + 1) := m.fm (fun b i hb => o1 b i (by omega)) (by show hI (setI h 109 5 _) 109 5 = _; rw [hI_setI, if_pos ⟨rfl, rfl⟩]) (by omega)
        have O1 := LO_apN O n hl
        obtain ⟨b, h2, e2, G2, o2⟩ := K82 w1 m1 (by omega) h120 O1 (M.to fun i => o1 110 i (by omega)) ((o1 109 35 (by omega)).trans e35) h20 d
        have eF : (fun k => (apN a n D k).1) = (fun k => (D k).1) := funext fun k => apN_F a n D k
        rw [eF] at o2
        have GG : Gm h0 h2 := (G.tr (Gm.one (by omega) _)).tr G2
        have st2 : ∀ j1, rW (d + 5) 83 (25, (0, 0), [some (rz_r (some 109)), j1, some (rz_i 1)], [], h) = if b = 0 then rW (d + 5) 83 (41, (0, 0), [some (rz_r (some 109)), none, some (rz_i 1)], [], h2) else rW (d + 5) 83 (39, (0, 0), [some (rz_r (some 109)), none, some (rz_i 1)], [], h2) := fun j1 => by
          rw [st j1, X83_32]
          simp only [bI_some, bV_some, bR_some, bL_some, ob_some, cd_t, cd_f, cd_d, okO_setI, okA_setI, okL_setI, aLen_setI, hR_setI, hI_setI, Bool.true_and, Bool.and_true, Bool.and_self, Option.isNone_some, Option.isSome_some, Option.isNone_none, Option.isSome_none, okO_chI, okA_chI, okL_chI, aLen_chI, hR_chI, ↓reduceIte, not_true_eq_false, not_false_eq_true, eq_self, c10, WMd w, k52, if_pos (show p < L ∧ t p = 59 from ⟨c, c2⟩), c10]
          rw [show setI h 109 5 (nI (p + 1)) = h1 from rfl, X83_36, e2]
          have ok := (WMd w1).1
          generalize h1 = g1 at *
          simp only [bI_some, bV_some, bR_some, bL_some, ob_some, cd_t, cd_f, cd_d, okO_setI, okA_setI, okL_setI, aLen_setI, hR_setI, hI_setI, Bool.true_and, Bool.and_true, Bool.and_self, Option.isNone_some, Option.isSome_some, Option.isNone_none, Option.isSome_none, okO_chI, okA_chI, okL_chI, aLen_chI, hR_chI, ↓reduceIte, not_true_eq_false, not_false_eq_true, eq_self, c10, ok]
        show ∃ b h', _ ∧ MfO h0 h' D tk x b (match lnT t L (fun k => (D k).1) (p + 1) n with
          | .inl e => Sum.inl e
          | .inr q => aft t L (ordT t L (fun k => (D k).1) f) q.1 (n + 1) (upl a n q.2))
        rcases o2 with ⟨e, he, rfl, v7⟩ | ⟨q, hq, rfl, m2, v35, M2⟩
        · rw [he]
          refine ⟨0, h2, fun j1 => ?_, GG, Or.inl ⟨e, rfl, rfl, v7⟩⟩
          rw [st2 j1, if_pos rfl, X83_41, X83_43]
          exact T25e h2 _ _
        · rw [hq]
          rcases lnT_ok t L (fun k => (D k).1) (p + 1) n (by omega) with ⟨e', he', -⟩ | ⟨q', hq', z1, z2, z3, z4⟩
          · rw [hq] at he'
            exact absurd he' (by simp)
          · rw [hq] at hq'
            have : q = q' := by simpa using hq'
            subst this
            obtain ⟨b, h', e, o⟩ := ih h2 q.1 (n + 1) (upl a n q.2) (by omega) (by omega) GG m2 z3 v35 (fun i hi => by
              show lOk _ (if i = n then q.2 else a i)
              split
              · exact z4
              · exact hl i (by omega)) (by rw [apN_s]; exact M2)
            refine ⟨b, h', fun j1 => ?_, o⟩
            rw [st2 j1, if_neg (show ¬ (1 : Int32) = 0 by decide), X83_39, X83_43]
            exact e _
      · rw [if_neg c2]
        refine ⟨0, setI h 109 7 (erI 1 p), fun j1 => ?_, G.tr (Gm.one (by omega) _), Or.inl ⟨_, rfl, rfl, by rw [hI_setI, if_pos ⟨rfl, rfl⟩]⟩⟩
        rw [st j1, X83_32]
        simp only [bI_some, bV_some, bR_some, bL_some, ob_some, cd_t, cd_f, cd_d, okO_setI, okA_setI, okL_setI, aLen_setI, hR_setI, hI_setI, Bool.true_and, Bool.and_true, Bool.and_self, Option.isNone_some, Option.isSome_some, Option.isNone_none, Option.isSome_none, okO_chI, okA_chI, okL_chI, aLen_chI, hR_chI, ↓reduceIte, not_true_eq_false, not_false_eq_true, eq_self, c10, WMd w, k52, if_neg (show ¬ (p < L ∧ t p = 59) from fun z => c2 z.2), X83_41, X83_43]
        exact T25e _ _ _
    · rw [if_neg c]
      refine ⟨1, h, fun j1 => ?_, G, Or.inr ⟨_, rfl, rfl, e35, M⟩⟩
      have g : nI L ≤ nI p := nI_le (by omega) (by omega)
      rw [X83_25]
      simp only [bI_some, bV_some, bR_some, bL_some, ob_some, cd_t, cd_f, cd_d, okO_setI, okA_setI, okL_setI, aLen_setI, hR_setI, hI_setI, Bool.true_and, Bool.and_true, Bool.and_self, Option.isNone_some, Option.isSome_some, Option.isNone_none, Option.isSome_none, okO_chI, okA_chI, okL_chI, aLen_chI, hR_chI, ↓reduceIte, not_true_eq_false, not_false_eq_true, eq_self, c10, c10]
      rw [X83_27]
      simp only [bI_some, bV_some, bR_some, bL_some, ob_some, cd_t, cd_f, cd_d, okO_setI, okA_setI, okL_setI, aLen_setI, hR_setI, hI_setI, Bool.true_and, Bool.and_true, Bool.and_self, Option.isNone_some, Option.isSome_some, Option.isNone_none, Option.isSome_none, okO_chI, okA_chI, okL_chI, aLen_chI, hR_chI, ↓reduceIte, not_true_eq_false, not_false_eq_true, eq_self, c10, WMd w, e5, e6, g]
theorem K83 {rb dr : Nat} {jd : Option Nat} {h : rz_H} (w : Wf rb dr jd h) {N : Nat} {t : Nat → Nat} (T : Tm h N t) (e4 : hI h 109 4 = nI N) {n : Nat} (h0 : 0 < n) (hn : n ≤ 120) (hN : n ≤ N) {D : Nat → TU} {tk x : Nat} (O : LO D tk x) (M : LM h D tk x) (a : Nat → LN) : ∃ h', h'.2 = h.2 ∧ hI h' 109 4 = 0 ∧ (∀ b i, ¬ (b = 109 ∧ ((4 ≤ i ∧ i ≤ 8) ∨ i = 10 ∨ i = 12 ∨ i = 35)) → b ≠ 110 → b ≠ 111 → hI h' b i = hI h b i) ∧ ((∃ e, ordT t n (fun k => (D k).1) 21 0 0 a = Sum.inl e ∧ cW 100 83 [rz_r (some 109), rz_i (nI n)] h = some (rz_i (erI e.1 e.2), h') ∧ LM h' D tk x) ∨ (∃ q, ordT t n (fun k => (D k).1) 21 0 0 a = Sum.inr q ∧ cW 100 83 [rz_r (some 109), rz_i (nI n)] h = some (rz_i (nI q.1), h') ∧ LM h' (apN q.2 q.1 D) tk x)) := by
  have hNN := T.1
  let ha := setI (setI (setI (setI h 109 5 0) 109 6 (nI n)) 109 10 0) 109 12 0
  let hb := setI ha 109 35 0
  let hc := chI hb (fun b i => if b = 111 ∧ i < 306 then hI hb 110 i else hI hb b i)
  have wa : Wf rb dr jd ha := w
  have wb : Wf rb dr jd hb := w
  have wc : Wf rb dr jd hc := w
  have ob : ∀ b i, ¬ (b = 109 ∧ (i = 5 ∨ i = 6 ∨ i = 10 ∨ i = 12 ∨ i = 35)) → hI hb b i = hI h b i := fun b i n1 => by
    show hI (setI (setI (setI (setI (setI h 109 5 0) 109 6 (nI n)) 109 10 0) 109 12 0) 109 35 0) b i = _
    rw [hI_setI, if_neg (by omega), hI_setI, if_neg (by omega), hI_setI, if_neg (by omega), hI_setI, if_neg (by omega), hI_setI, if_neg (by omega)]
  have oc : ∀ b i, b ≠ 111 → hI hc b i = hI hb b i := fun b i z => by
    show (if b = 111 ∧ i < 306 then hI hb 110 i else hI hb b i) = _
    rw [if_neg (by omega)]
  have oc' : ∀ i, i < 306 → hI hc 111 i = hI h 110 i := fun i z => by
    show (if 111 = 111 ∧ i < 306 then hI hb 110 i else hI hb 111 i) = _
    rw [if_pos ⟨rfl, z⟩]
    exact ob 110 i (by omega)
  have mc : MT hc N t n 0 := ⟨⟨T.1, fun i hi => ⟨(T.2 i hi).1, by rw [oc 113 i (by omega), ob 113 i (by omega)]; exact (T.2 i hi).2⟩⟩, hN, (oc 109 6 (by omega)).trans rfl, (oc 109 5 (by omega)).trans rfl, by omega⟩
  have Mc : LM hc D tk x := M.to fun i => (oc 110 i (by omega)).trans (ob 110 i (by omega))
  have v35 : hI hc 109 35 = nI 0 := (oc 109 35 (by omega)).trans rfl
  obtain ⟨b1, h1, e1, G1, o1⟩ := K82 wc mc (by omega) hn O Mc v35 (by omega) 94
  have fin : ∃ b2 h2, rW 99 83 (25, (0, 0), [some (rz_r (some 109)), some (rz_i (nI n)), some (rz_i b1)], [], h1) = rW 99 83 (44, (0, 0), [some (rz_r (some 109)), none, some (rz_i b2)], [], h2) ∧ MfO hc h2 D tk x b2 (ordT t n (fun k => (D k).1) 21 0 0 a) := by
    show ∃ b2 h2, _ ∧ MfO hc h2 D tk x b2 (match lnT t n (fun k => (D k).1) 0 0 with
      | .inl e => Sum.inl e
      | .inr q => aft t n (ordT t n (fun k => (D k).1) 20) q.1 (0 + 1) (upl a 0 q.2))
    rcases o1 with ⟨e, he, rfl, v7⟩ | ⟨q, hq, rfl, m2, v2, M2⟩
    · rw [he]
      exact ⟨0, h1, T25e h1 _ _, G1, Or.inl ⟨e, rfl, rfl, v7⟩⟩
    · rw [hq]
      rcases lnT_ok t n (fun k => (D k).1) 0 0 (by omega) with ⟨e', he', -⟩ | ⟨q', hq', z1, z2, z3, z4⟩
      · rw [hq] at he'
        exact absurd he' (by simp)
      · rw [hq] at hq'
        have : q = q' := by simpa using hq'
        subst this
        obtain ⟨b, h', e, o⟩ := T25 wc hn O 94 20 h1 q.1 (0 + 1) (upl a 0 q.2) (by omega) (by omega) G1 m2 z3 v2 (fun i hi => by
          show lOk _ (if i = 0 then q.2 else a i)
          rw [if_pos (by omega)]
          exact z4) (by rw [apN_s]; exact M2)
        exact ⟨b, h', e _, o⟩
  obtain ⟨b2, h2, e2, G2, o2⟩ := fin
  have w2 : Wf rb dr jd h2 := wc.e G2.1
  let h3 := setI h2 109 4 0
  have w3 : Wf rb dr jd h3 := w2
  have o3 : ∀ b i, ¬ (b = 109 ∧ i = 4) → hI h3 b i = hI h2 b i := fun b i z => by
    show hI (setI h2 109 4 0) b i = _
    rw [hI_setI, if_neg z]
  have v34 : hI h3 109 4 = 0 := by
    show hI (setI h2 109 4 0) 109 4 = 0
    rw [hI_setI, if_pos ⟨rfl, rfl⟩]
  have ff : ∀ b i, ¬ (b = 109 ∧ ((4 ≤ i ∧ i ≤ 8) ∨ i = 10 ∨ i = 12 ∨ i = 35)) → b ≠ 110 → b ≠ 111 → hI h3 b i = hI h b i := fun b i n1 n2 n3 => by
    rw [o3 b i (by omega), G2.2 b i (by omega) n2, oc b i n3, ob b i (by omega)]
  have n60 : (1 : Int32) ≤ nI n ∧ nI n ≤ 120 := ⟨nI_le (a := 1) (by omega) (by omega), nI_le (b := 120) (by omega) (by omega)⟩
  have c1 : nI n ≤ nI N := nI_le hN (by omega)
  have e69 : ∀ d, cW (d + 1) 69 [rz_r (some 109), rz_i (nI n)] h = some (rz_i 0, ha) := fun d => by
    rw [E69]
    simp only [bI_some, bV_some, bR_some, bL_some, ob_some, cd_t, cd_f, cd_d, okO_setI, okA_setI, okL_setI, aLen_setI, hR_setI, hI_setI, Bool.true_and, Bool.and_true, Bool.and_self, Option.isNone_some, Option.isSome_some, Option.isNone_none, Option.isSome_none, okO_chI, okA_chI, okL_chI, aLen_chI, hR_chI, ↓reduceIte, not_true_eq_false, not_false_eq_true, eq_self, c10, WMd w]
    rfl
  have okb := (WMd wb).1
  have sb := S38 wb 98 110 111 (fun x => (WMd wb).2.2.2.2.2.2.2.2.2.2.2.2.2.2.2.2.2.2.2.2.2.2.2.2.1 x) (fun x => (WMd wb).2.2.2.2.2.2.2.2.2.2.2.2.2.2.2.2.2.2.2.2.2.2.2.2.2.2.2.1 x) (by omega)
  have rb0 : hR hb 109 0 = some 110 := (WMd wb).2.1
  have rb1 : hR hb 109 1 = some 111 := (WMd wb).2.2.1
  have st : cW 100 83 [rz_r (some 109), rz_i (nI n)] h = rW 99 83 (47, (0, 0), [some (rz_r (some 109)), none, some (rz_i b2)], [], h3) := by
    rw [X83]
    simp only [bI_some, bV_some, bR_some, bL_some, ob_some, cd_t, cd_f, cd_d, okO_setI, okA_setI, okL_setI, aLen_setI, hR_setI, hI_setI, Bool.true_and, Bool.and_true, Bool.and_self, Option.isNone_some, Option.isSome_some, Option.isNone_none, Option.isSome_none, okO_chI, okA_chI, okL_chI, aLen_chI, hR_chI, ↓reduceIte, not_true_eq_false, not_false_eq_true, eq_self, c10, S33, if_pos n60, c10]
    rw [X83_5, e4]
    simp only [bI_some, bV_some, bR_some, bL_some, ob_some, cd_t, cd_f, cd_d, okO_setI, okA_setI, okL_setI, aLen_setI, hR_setI, hI_setI, Bool.true_and, Bool.and_true, Bool.and_self, Option.isNone_some, Option.isSome_some, Option.isNone_none, Option.isSome_none, okO_chI, okA_chI, okL_chI, aLen_chI, hR_chI, ↓reduceIte, not_true_eq_false, not_false_eq_true, eq_self, c10, WMd w, c1]
    rw [X83_11, e69]
    simp only [bV_some, cd_t, (WMd w).1]
    rw [X83_14]
    simp only [cd_t, (WMd wa).1]
    rw [show setI ha 109 35 0 = hb from rfl, X83_17, rb0, rb1, sb]
    simp only [bV_some, cd_t, okb]
    rw [show chI hb (fun b i => if b = 111 ∧ i < 306 then hI hb 110 i else hI hb b i) = hc from rfl, X83_22, e1]
    simp only [bI_some, cd_t, (WMd wc).1]
    rw [e2, X83_44]
    simp only [cd_t, (WMd w2).1]
    rfl
  rcases o2 with ⟨e, he, rfl, v7⟩ | ⟨q, hq, rfl, v5, M2⟩
  · let h4 := chI h3 (fun b i => if b = 110 ∧ i < 306 then hI h3 111 i else hI h3 b i)
    have w4 : Wf rb dr jd h4 := w3
    have o4 : ∀ b i, b ≠ 110 → hI h4 b i = hI h3 b i := fun b i z => by
      show (if b = 110 ∧ i < 306 then hI h3 111 i else hI h3 b i) = _
      rw [if_neg (by omega)]
    have s3 := S38 w3 98 111 110 (fun x => (WMd w3).2.2.2.2.2.2.2.2.2.2.2.2.2.2.2.2.2.2.2.2.2.2.2.2.2.2.2.1 x) (fun x => (WMd w3).2.2.2.2.2.2.2.2.2.2.2.2.2.2.2.2.2.2.2.2.2.2.2.2.1 x) (by omega)
    have rc0 : hR h3 109 0 = some 110 := (WMd w3).2.1
    have rc1 : hR h3 109 1 = some 111 := (WMd w3).2.2.1
    refine ⟨h4, G2.1, (o4 109 4 (by omega)).trans v34, fun b i n1 n2 n3 => (o4 b i n2).trans (ff b i n1 n2 n3), Or.inl ⟨e, he, ?_, ?_⟩⟩
    · have v : hI h4 109 7 = erI e.1 e.2 := (o4 109 7 (by omega)).trans ((o3 109 7 (by omega)).trans v7)
      rw [st, X83_47]
      simp only [bI_some, bV_some, bR_some, bL_some, ob_some, cd_t, cd_f, cd_d, okO_setI, okA_setI, okL_setI, aLen_setI, hR_setI, hI_setI, Bool.true_and, Bool.and_true, Bool.and_self, Option.isNone_some, Option.isSome_some, Option.isNone_none, Option.isSome_none, okO_chI, okA_chI, okL_chI, aLen_chI, hR_chI, ↓reduceIte, not_true_eq_false, not_false_eq_true, eq_self, c10]
      rw [X83_52, rc0, rc1, s3]
      simp only [bV_some, cd_t, (WMd w3).1]
      rw [show chI h3 (fun b i => if b = 110 ∧ i < 306 then hI h3 111 i else hI h3 b i) = h4 from rfl, X83_57, v]
      simp only [cd_t, (WMd w4).1]
    · refine LM.to3 O M fun i hi => ?_
      show (if 110 = 110 ∧ i < 306 then hI h3 111 i else hI h3 110 i) = _
      rw [if_pos ⟨rfl, hi⟩, o3 111 i (by omega), G2.2 111 i (by omega) (by omega)]
      exact oc' i hi
  · refine ⟨h3, G2.1, v34, ff, Or.inr ⟨q, hq, ?_, M2.to fun i => o3 110 i (by omega)⟩⟩
    have v : hI h3 109 35 = nI q.1 := (o3 109 35 (by omega)).trans v5
    rw [st, X83_47]
    simp only [bI_some, bV_some, bR_some, bL_some, ob_some, cd_t, cd_f, cd_d, okO_setI, okA_setI, okL_setI, aLen_setI, hR_setI, hI_setI, Bool.true_and, Bool.and_true, Bool.and_self, Option.isNone_some, Option.isSome_some, Option.isNone_none, Option.isSome_none, okO_chI, okA_chI, okL_chI, aLen_chI, hR_chI, ↓reduceIte, not_true_eq_false, not_false_eq_true, eq_self, c10, c10]
    rw [X83_49, v]
    simp only [cd_t, (WMd w3).1]
theorem P4 (x : Int32) : Pr Rel 4 83 [rz_i x] := by
  intro h r
  obtain ⟨rb, dr, jd, w, r1, r2, r3, r4, r5⟩ := id r
  have hrb := lw_rb w
  have hL3 : isL 3 := Or.inl rfl
  obtain ⟨D, tk, z, O, C, M⟩ := mkL hL3 r1 r2
  obtain ⟨N, t, T⟩ := mkTq r3
  have hNN := T.1.1
  by_cases hy : 1 ≤ x ∧ x ≤ 120
  · have y1 := Int32.not_lt.mpr hy.1
    have y2 := Int32.not_lt.mpr hy.2
    obtain ⟨n, hn, rfl⟩ := nI_of2 (x := x) (M := 120) (n := 120) rfl (fun q => y1 (Int32.lt_trans q (by decide))) hy.2
    have n0 : 0 < n := (nI_leI (a := 1) (b := n) (by omega) (by omega)).mp hy.1
    by_cases hnN : n ≤ N
    · have c1 : nI n ≤ nI N := nI_le hnN (by omega)
      let a0 : Nat → LN := fun _ => (0, 0, 0, 0)
      obtain ⟨v, g1, e1, o1⟩ := C219 w T hnN O C a0 93
      have e1 : cW 99 219 [rz_r (some 90), rz_i (nI n), rz_r (some 3)] h = some (rz_i v, g1) := e1
      have ok := ordT_ok t n (fun k => (D k).1) 21 0 0 a0 (by omega) (fun i hi => absurd hi (by omega))
      rcases o1 with ⟨er, hz, rfl, D1⟩ | ⟨q, hz, rfl, z1, z2, D1, z3, z4⟩
      · obtain ⟨k1, k2, k3⟩ := ok.1 er hz
        have w1 : Wf rb dr jd g1 := w.e D1.1
        have ng : erI er.1 er.2 ≤ 0 := er_ck er.1 k2 k1 er.2 (by omega)
        have o1 : ∀ b i, ¬ (90 ≤ b ∧ b ≤ 94) → ¬ (b = 1 ∧ i = 1) → hI (setI g1 1 1 0) b i = hI h b i := fun b i n1 n2 => by rw [hI_setI, if_neg n2]; exact D1.2 b i n1
        have w2 : Wf rb dr jd (setI g1 1 1 0) := w1
        have T2 : Tm (setI g1 1 1 0) N t := ⟨T.1.1, fun i hi => ⟨(T.1.2 i hi).1, by rw [o1 113 i (by omega) (by omega)]; exact (T.1.2 i hi).2⟩⟩
        obtain ⟨g2, a0', a1, a2, a3⟩ := K83 w2 T2 ((o1 109 4 (by omega) (by omega)).trans T.2.2.1) n0 hn hnN O (M.to fun i => o1 110 i (by omega) (by omega)) a0
        rcases a3 with ⟨e, hz', e2, M2⟩ | ⟨q, hz', -⟩
        · rw [hz] at hz'
          have : er = e := by simpa using hz'
          subst this
          have w3 : Wf rb dr jd g2 := w2.e a0'
          have oo : ∀ b i, ¬ (90 ≤ b ∧ b ≤ 94) → ¬ (b = 1 ∧ i = 1) → ¬ (b = 109 ∧ ((4 ≤ i ∧ i ≤ 8) ∨ i = 10 ∨ i = 12 ∨ i = 35)) → b ≠ 110 → b ≠ 111 → hI g2 b i = hI h b i := fun b i n1 n2 n3 n4 n5 => (a2 b i n3 n4 n5).trans (o1 b i n1 n2)
          refine ⟨erI er.1 er.2, setI g1 1 1 0, g2, ?_, e2, (WMd w2).1, mkRelc ⟨r4, r5⟩ w3 O (C.to fun b b1 b2 i => oo b i (by omega) (by omega) (by omega) (by omega) (by omega)) M2 ?_ a1 (fun b i hb => oo b i (by omega) (by omega) (by omega) (by omega) (by omega))⟩
          · rw [show DD = 99 + 1 from rfl, E4]
            simp only [bI_some, bV_some, bR_some, bL_some, ob_some, cd_t, cd_f, cd_d, okO_setI, okA_setI, okL_setI, aLen_setI, hR_setI, hI_setI, Bool.true_and, Bool.and_true, Bool.and_self, Option.isNone_some, Option.isSome_some, Option.isNone_none, Option.isSome_none, okO_chI, okA_chI, okL_chI, aLen_chI, hR_chI, ↓reduceIte, not_true_eq_false, not_false_eq_true, eq_self, c10, if_neg y1, if_neg y2, ↓WCb w, ↓WCb w1, WRt w, WRt w1, WOr w, S268 w, T.2.1, if_pos c1, e1, S272 w1, if_pos ng]
          · rw [a2 1 1 (by omega) (by omega) (by omega), hI_setI, if_pos ⟨rfl, rfl⟩]
        · rw [hz] at hz'
          exact absurd hz' (by simp)
      · have lk := ok.2 q hz
        have w1 : Wf rb dr jd g1 := w.e D1.1
        have o1 : ∀ b i, ¬ (90 ≤ b ∧ b ≤ 94) → ¬ (b = 1 ∧ i = 1) → hI (setI g1 1 1 0) b i = hI h b i := fun b i n1 n2 => by rw [hI_setI, if_neg n2]; exact D1.2 b i n1
        have w2 : Wf rb dr jd (setI g1 1 1 0) := w1
        have o2 : ∀ b i, b ≠ 1 → hI (setI g1 1 1 0) b i = hI g1 b i := fun b i n2 => by rw [hI_setI, if_neg (by omega)]
        obtain ⟨g3, e3, b0, b1, C3⟩ := C223 w2 O z2 lk ((o2 90 9 (by omega)).trans z3) (fun i hi => by
          obtain ⟨l1, l2, l3, l4⟩ := z4 i hi
          exact ⟨(o2 91 i (by omega)).trans l1, (o2 92 i (by omega)).trans l2, (o2 93 i (by omega)).trans l3, (o2 94 i (by omega)).trans l4⟩) 95 q.1 0 (setI g1 1 1 0) (by omega) rfl (fun _ _ _ => rfl) (C.to fun b b1 b2 i => o1 b i (by omega) (by omega))
        have w3 : Wf rb dr jd g3 := w2.e b0
        have o3 : ∀ b i, ¬ (90 ≤ b ∧ b ≤ 94) → ¬ (b = 1 ∧ i = 1) → ¬ (5 ≤ b ∧ b < 29) → hI g3 b i = hI h b i := fun b i n1 n2 n3 => (b1 b i n3).trans (o1 b i n1 n2)
        have T3 : Tm g3 N t := ⟨T.1.1, fun i hi => ⟨(T.1.2 i hi).1, by rw [o3 113 i (by omega) (by omega) (by omega)]; exact (T.1.2 i hi).2⟩⟩
        obtain ⟨g4, c0, c2, c3, c4⟩ := K83 w3 T3 ((o3 109 4 (by omega) (by omega) (by omega)).trans T.2.2.1) n0 hn hnN O (M.to fun i => o3 110 i (by omega) (by omega) (by omega)) a0
        rcases c4 with ⟨e, hz', -⟩ | ⟨q', hz', e4, M4⟩
        · rw [hz] at hz'
          exact absurd hz' (by simp)
        · rw [hz] at hz'
          have : q = q' := by simpa using hz'
          subst this
          have w4 : Wf rb dr jd g4 := w3.e c0
          have oo : ∀ b i, ¬ (90 ≤ b ∧ b ≤ 94) → ¬ (b = 1 ∧ i = 1) → ¬ (5 ≤ b ∧ b < 29) → ¬ (b = 109 ∧ ((4 ≤ i ∧ i ≤ 8) ∨ i = 10 ∨ i = 12 ∨ i = 35)) → b ≠ 110 → b ≠ 111 → hI g4 b i = hI h b i := fun b i n1 n2 n3 n4 n5 n6 => (c3 b i n4 n5 n6).trans (o3 b i n1 n2 n3)
          refine ⟨nI q.1, g3, g4, ?_, e4, (WMd w3).1, mkRelc ⟨r4, r5⟩ w4 (LO_apN O q.1 lk) (C3.to fun b b1 b2 i => c3 b i (by omega) (by omega) (by omega)) M4 ?_ c2 (fun b i hb => oo b i (by omega) (by omega) (by omega) (by omega) (by omega) (by omega))⟩
          · have ps : ¬ nI q.1 ≤ 0 := nI_nle z1 (by omega)
            have e223 : cW 99 223 [rz_r (some 90), rz_r (some 3)] (setI g1 1 1 0) = some (rz_i 0, g3) := by
              rw [show 99 = 98 + 1 from rfl, X223]
              exact e3 none
            rw [show DD = 99 + 1 from rfl, E4]
            simp only [bI_some, bV_some, bR_some, bL_some, ob_some, cd_t, cd_f, cd_d, okO_setI, okA_setI, okL_setI, aLen_setI, hR_setI, hI_setI, Bool.true_and, Bool.and_true, Bool.and_self, Option.isNone_some, Option.isSome_some, Option.isNone_none, Option.isSome_none, okO_chI, okA_chI, okL_chI, aLen_chI, hR_chI, ↓reduceIte, not_true_eq_false, not_false_eq_true, eq_self, c10, if_neg y1, if_neg y2, ↓WCb w, ↓WCb w1, ↓WCb w2, WRt w, WRt w1, WRt w2, WOr w, WOr w1, WOr w2, S268 w, T.2.1, if_pos c1, e1, S272 w1, if_neg ps, e223]
          · rw [c3 1 1 (by omega) (by omega) (by omega), b1 1 1 (by omega), hI_setI, if_pos ⟨rfl, rfl⟩]
    · have c1 : ¬ nI n ≤ nI N := nI_ge (by omega) (by omega)
      refine ⟨-1, h, h, ?_, ?_, (WMd w).1, r⟩
      · rw [show DD = 99 + 1 from rfl, E4]
        simp only [bI_some, bV_some, bR_some, bL_some, ob_some, cd_t, cd_f, cd_d, okO_setI, okA_setI, okL_setI, aLen_setI, hR_setI, hI_setI, Bool.true_and, Bool.and_true, Bool.and_self, Option.isNone_some, Option.isSome_some, Option.isNone_none, Option.isSome_none, okO_chI, okA_chI, okL_chI, aLen_chI, hR_chI, ↓reduceIte, not_true_eq_false, not_false_eq_true, eq_self, c10, if_neg y1, if_neg y2, ↓WCb w, WRt w, S268 w, T.2.1, if_neg c1]
      · rw [show DD = 99 + 1 from rfl, X83]
        simp only [bI_some, bV_some, bR_some, bL_some, ob_some, cd_t, cd_f, cd_d, okO_setI, okA_setI, okL_setI, aLen_setI, hR_setI, hI_setI, Bool.true_and, Bool.and_true, Bool.and_self, Option.isNone_some, Option.isSome_some, Option.isNone_none, Option.isSome_none, okO_chI, okA_chI, okL_chI, aLen_chI, hR_chI, ↓reduceIte, not_true_eq_false, not_false_eq_true, eq_self, c10, S33, if_pos hy, X83_5, WMd w, T.2.2.1, if_neg c1, X83_9, c10]
  · refine ⟨-1, h, h, ?_, ?_, (WMd w).1, r⟩
    · rw [show DD = 99 + 1 from rfl, E4]
      by_cases y1 : x < 1
      · simp only [bI_some, bV_some, bR_some, bL_some, ob_some, cd_t, cd_f, cd_d, okO_setI, okA_setI, okL_setI, aLen_setI, hR_setI, hI_setI, Bool.true_and, Bool.and_true, Bool.and_self, Option.isNone_some, Option.isSome_some, Option.isNone_none, Option.isSome_none, okO_chI, okA_chI, okL_chI, aLen_chI, hR_chI, ↓reduceIte, not_true_eq_false, not_false_eq_true, eq_self, c10, if_pos y1]
      · have y2 : (120 : Int32) < x := Int32.not_le.mp fun e => hy ⟨Int32.not_lt.mp y1, e⟩
        simp only [bI_some, bV_some, bR_some, bL_some, ob_some, cd_t, cd_f, cd_d, okO_setI, okA_setI, okL_setI, aLen_setI, hR_setI, hI_setI, Bool.true_and, Bool.and_true, Bool.and_self, Option.isNone_some, Option.isSome_some, Option.isNone_none, Option.isSome_none, okO_chI, okA_chI, okL_chI, aLen_chI, hR_chI, ↓reduceIte, not_true_eq_false, not_false_eq_true, eq_self, c10, if_neg y1, if_pos y2]
    · rw [show DD = 99 + 1 from rfl, X83]
      simp only [bI_some, bV_some, bR_some, bL_some, ob_some, cd_t, cd_f, cd_d, okO_setI, okA_setI, okL_setI, aLen_setI, hR_setI, hI_setI, Bool.true_and, Bool.and_true, Bool.and_self, Option.isNone_some, Option.isSome_some, Option.isNone_none, Option.isSome_none, okO_chI, okA_chI, okL_chI, aLen_chI, hR_chI, ↓reduceIte, not_true_eq_false, not_false_eq_true, eq_self, c10, S33, if_neg hy, X83_9]
