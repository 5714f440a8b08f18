/-! the law's text: a whole rule, the class's reader -/
def ctO (st : Nat) (r : RU) : Nat := if hasA r.1 = true then st + r.2.1.1 + 1 else st
theorem ltsr : ¬ (97 : Int32) = 118 ∧ ¬ (108 : Int32) = 118 ∧ ¬ (108 : Int32) = 97 ∧ ¬ (120 : Int32) = 118 ∧ ¬ (120 : Int32) = 97 ∧ ¬ (120 : Int32) = 108 := by decide
theorem Le.bs {dr : Nat} {h h1 h' : rz_H} {e : Nat × Nat} (s : Le dr h1 h' e) (f : FE dr h h1) : Le dr h h' e := ⟨f.tr s.1, s.2⟩
def OcR (dr st nr L : Nat) (h h' : rz_H) (z : (Nat × Nat) ⊕ (Nat × RU)) : Prop := (∃ e, z = Sum.inl e ∧ Le dr h h' e) ∨ (∃ q, z = Sum.inr q ∧ nr < 16 ∧ FR dr st nr h h' ∧ Rs 81 h' L q.1 ∧ q.1 ≤ L ∧ ctO st q.2 + q.2.2.2.1 + 1 ≤ q.1 ∧ hI h' dr 5 = nI (nr + 1) ∧ hI h' dr 6 = nI (ctO st q.2 + q.2.2.2.1 + 1) ∧ hI h' (dr + 1) nr = nI q.2.1 ∧ hI h' (dr + 2) nr = nI st ∧ hI h' (dr + 3) nr = nI (ctO st q.2) ∧ StC dr h' (ctO st q.2) q.2.2.2.1 q.2.2.2.2 ∧ (hasA q.2.1 = true → StC dr h' st q.2.2.1.1 q.2.2.1.2))
theorem tail_q {t : Nat → Nat} {L s p : Nat} {A : Nat × CC} {q : Nat × RU} (h : tailT t L s A p = Sum.inr q) : q.2.1 = s ∧ q.2.2.1 = A := by
  unfold tailT at h
  split at h
  · split at h
    · exact absurd h (by simp)
    · split at h
      · have : (_, s, A, _) = q := Sum.inr.inj h
        subst this
        exact ⟨rfl, rfl⟩
      · exact absurd h (by simp)
  · exact absurd h (by simp)
theorem C208 {rb dr : Nat} {jd : Option Nat} {h : rz_H} (w : Wf rb dr jd h) {N : Nat} {t : Nat → Nat} (T : Tq h N t) {L : Nat} (hL : L ≤ N) (h240 : L ≤ 240) {p st nr : Nat} (r : Rs 81 h L p) (hp : p ≤ L) (e6 : hI h dr 6 = nI st) (hst : st ≤ p) (e5 : hI h dr 5 = nI nr) (hnr : nr ≤ 16) (d : Nat) : ∃ h', cW (d + 25) 208 [rz_r (some 81)] h = some (rz_i 0, h') ∧ OcR dr st nr L h h' (rulT t L p nr) := by
  have hd := isW_dr w
  have hdn := isW_n hd
  have hN := T.1.1
  have hb : p < L → t p < 256 := fun q => (T.1.2 p (by omega)).1
  have pk := fun d => R227 w isR81 T hL r.1 r.2.1 (by omega) r.2.2 d
  have b5 := obR (WLr w).2.2.2
  have s0 : Lz dr st h h L p czz 0 := ⟨⟨rfl, fun _ _ _ _ _ => rfl⟩, r, e6, fun i hi => absurd hi (by omega)⟩
  have st0 : cW (d + 25) 208 [rz_r (some 81)] h = rW (d + 24) 208 (3, (0, 0), [some (rz_r (some 81)), some (rz_i (pkI t L p)), none, none, none], [], h) := by
    rw [X208, pk]
    simp only [bI_some, bV_some, bR_some, bL_some, ob_some, cd_t, cd_f, cd_d, okO_setI, okA_setI, okL_setI, aLen_setI, hR_setI, hI_setI, Bool.true_and, Bool.and_true, Bool.and_self, Option.isNone_some, Option.isSome_some, Option.isNone_none, Option.isSome_none, okO_chI, okA_chI, okL_chI, aLen_chI, hR_chI, ↓reduceIte, not_true_eq_false, not_false_eq_true, eq_self, c10, WLr w]
  rw [st0]
  unfold rulT
  by_cases c1 : p < L ∧ isRl (t p) = true
  · rw [if_pos c1, pkk_in c1.1]
    have sg : t p = 118 ∨ t p = 97 ∨ t p = 108 ∨ t p = 120 := of_decide_eq_true c1.2
    have st1 : rW (d + 24) 208 (3, (0, 0), [some (rz_r (some 81)), some (rz_i (nI (t p))), none, none, none], [], h) = rW (d + 24) 208 (24, (0, 0), [some (rz_r (some 81)), some (rz_i (nI (t p))), some (rz_i (if hasA (t p) = true then 1 else 0)), none, none], [], h) := by
      generalize t p = z at sg
      rcases sg with rfl | rfl | rfl | rfl
      · show rW (d + 24) 208 (3, (0, 0), [some (rz_r (some 81)), some (rz_i 118), none, none, none], [], h) = rW (d + 24) 208 (24, (0, 0), [some (rz_r (some 81)), some (rz_i 118), some (rz_i 1), none, none], [], h)
        simp only [bI_some, bV_some, bR_some, bL_some, ob_some, cd_t, cd_f, cd_d, okO_setI, okA_setI, okL_setI, aLen_setI, hR_setI, hI_setI, Bool.true_and, Bool.and_true, Bool.and_self, Option.isNone_some, Option.isSome_some, Option.isNone_none, Option.isSome_none, okO_chI, okA_chI, okL_chI, aLen_chI, hR_chI, ↓reduceIte, not_true_eq_false, not_false_eq_true, eq_self, c10, X208_3, X208_9, X208_13]
      · show rW (d + 24) 208 (3, (0, 0), [some (rz_r (some 81)), some (rz_i 97), none, none, none], [], h) = rW (d + 24) 208 (24, (0, 0), [some (rz_r (some 81)), some (rz_i 97), some (rz_i 1), none, none], [], h)
        simp only [bI_some, bV_some, bR_some, bL_some, ob_some, cd_t, cd_f, cd_d, okO_setI, okA_setI, okL_setI, aLen_setI, hR_setI, hI_setI, Bool.true_and, Bool.and_true, Bool.and_self, Option.isNone_some, Option.isSome_some, Option.isNone_none, Option.isSome_none, okO_chI, okA_chI, okL_chI, aLen_chI, hR_chI, ↓reduceIte, not_true_eq_false, not_false_eq_true, eq_self, c10, X208_3, X208_6, X208_9, X208_13, ltsr]
      · show rW (d + 24) 208 (3, (0, 0), [some (rz_r (some 81)), some (rz_i 108), none, none, none], [], h) = rW (d + 24) 208 (24, (0, 0), [some (rz_r (some 81)), some (rz_i 108), some (rz_i 0), none, none], [], h)
        simp only [bI_some, bV_some, bR_some, bL_some, ob_some, cd_t, cd_f, cd_d, okO_setI, okA_setI, okL_setI, aLen_setI, hR_setI, hI_setI, Bool.true_and, Bool.and_true, Bool.and_self, Option.isNone_some, Option.isSome_some, Option.isNone_none, Option.isSome_none, okO_chI, okA_chI, okL_chI, aLen_chI, hR_chI, ↓reduceIte, not_true_eq_false, not_false_eq_true, eq_self, c10, X208_3, X208_6, X208_11, X208_13, X208_15, ltsr]
      · show rW (d + 24) 208 (3, (0, 0), [some (rz_r (some 81)), some (rz_i 120), none, none, none], [], h) = rW (d + 24) 208 (24, (0, 0), [some (rz_r (some 81)), some (rz_i 120), some (rz_i 0), none, none], [], h)
        simp only [bI_some, bV_some, bR_some, bL_some, ob_some, cd_t, cd_f, cd_d, okO_setI, okA_setI, okL_setI, aLen_setI, hR_setI, hI_setI, Bool.true_and, Bool.and_true, Bool.and_self, Option.isNone_some, Option.isSome_some, Option.isNone_none, Option.isSome_none, okO_chI, okA_chI, okL_chI, aLen_chI, hR_chI, ↓reduceIte, not_true_eq_false, not_false_eq_true, eq_self, c10, X208_3, X208_6, X208_11, X208_13, X208_15, X208_18, ltsr]
    rw [st1, X208_24]
    by_cases c2 : nr < 16
    · rw [if_pos c2]
      have g : nI nr < 16 := (nI_ltI (a := nr) (b := 16) (by omega) (by omega)).mpr c2
      let h1 := setI h 81 2 (nI (p + 1))
      have w1 : Wf rb dr jd h1 := w
      have s1 : Lz dr st h h1 L (p + 1) czz 0 := s0.go hd (p + 1)
      have f1 : FE dr h h1 := s1.1.fe
      have T1 := T.fe hd f1
      have q6 : hI h1 dr 6 = nI st := s1.2.2.1
      have q5 : hI h1 dr 5 = nI nr := (s1.1.2 dr 5 (by omega) (by omega) (by omega)).trans e5
      have st2 : ∀ x2, (bif okO h 81 [5] then (Option.bind (hR h 81 5) fun a1 => bif okO h a1 [4] then bI (cW (d + 24) 194 [rz_r (some a1)] h) fun x3 h2 => (bif decide (x3 < (16 : Int32)) then rW (d + 24) 208 (35, (0, 0), [some (rz_r (some 81)), some (rz_i (nI (t p))), some (rz_i x2), none, none], [], h2) else rW (d + 24) 208 (29, (0, 0), [some (rz_r (some 81)), some (rz_i (nI (t p))), some (rz_i x2), none, none], [], h2)) else none) else none) = rW (d + 24) 208 (41, (0, 0), [some (rz_r (some 81)), some (rz_i (nI (t p))), some (rz_i x2), some (rz_i (nI st)), none], [], h1) := fun x2 => by
        have b6 := obR (WLr w1).2.2.2
        simp only [bI_some, bV_some, bR_some, bL_some, ob_some, cd_t, cd_f, cd_d, okO_setI, okA_setI, okL_setI, aLen_setI, hR_setI, hI_setI, Bool.true_and, Bool.and_true, Bool.and_self, Option.isNone_some, Option.isSome_some, Option.isNone_none, Option.isSome_none, okO_chI, okA_chI, okL_chI, aLen_chI, hR_chI, ↓reduceIte, not_true_eq_false, not_false_eq_true, eq_self, c10, WLr w, ↓b5, WLw w hd, E194, e5, g]
        rw [X208_35]
        simp only [bI_some, bV_some, bR_some, bL_some, ob_some, cd_t, cd_f, cd_d, okO_setI, okA_setI, okL_setI, aLen_setI, hR_setI, hI_setI, Bool.true_and, Bool.and_true, Bool.and_self, Option.isNone_some, Option.isSome_some, Option.isNone_none, Option.isSome_none, okO_chI, okA_chI, okL_chI, aLen_chI, hR_chI, ↓reduceIte, not_true_eq_false, not_false_eq_true, eq_self, c10, WLr w, R229 w isR81 r.2.1]
        rw [show setI h 81 2 (nI (p + 1)) = h1 from rfl, X208_37]
        have o1 := (WLr w1).1
        have o2 := (WLw w1 hd).1
        generalize h1 = g1 at *
        simp only [bI_some, bV_some, bR_some, bL_some, ob_some, cd_t, cd_f, cd_d, okO_setI, okA_setI, okL_setI, aLen_setI, hR_setI, hI_setI, Bool.true_and, Bool.and_true, Bool.and_self, Option.isNone_some, Option.isSome_some, Option.isNone_none, Option.isSome_none, okO_chI, okA_chI, okL_chI, aLen_chI, hR_chI, ↓reduceIte, not_true_eq_false, not_false_eq_true, eq_self, c10, o1, ↓b6, o2, E195, q6]
      rw [st2, X208_41]
      by_cases c3 : hasA (t p) = true
      · rw [if_pos c3, if_pos c3]
        simp only [bI_some, bV_some, bR_some, bL_some, ob_some, cd_t, cd_f, cd_d, okO_setI, okA_setI, okL_setI, aLen_setI, hR_setI, hI_setI, Bool.true_and, Bool.and_true, Bool.and_self, Option.isNone_some, Option.isSome_some, Option.isNone_none, Option.isSome_none, okO_chI, okA_chI, okL_chI, aLen_chI, hR_chI, ↓reduceIte, not_true_eq_false, not_false_eq_true, eq_self, c10, c10]
        have s1' : Lz dr st h1 h1 L (p + 1) czz 0 := ⟨⟨rfl, fun _ _ _ _ _ => rfl⟩, s1.2.1, q6, fun i hi => absurd hi (by omega)⟩
        obtain ⟨h2, e2, o2⟩ := SG w1 T1 hL h240 st d h1 (p + 1) czz 0 s1' (by omega) (by omega)
        have e2 : cW (d + 24) 213 [rz_r (some 81), rz_i 0] h1 = some (rz_i 0, h2) := e2
        have st3 : rW (d + 24) 208 (43, (0, 0), [some (rz_r (some 81)), some (rz_i (nI (t p))), some (rz_i 1), some (rz_i (nI st)), none], [], h1) = rW (d + 24) 208 (46, (0, 0), [some (rz_r (some 81)), some (rz_i (nI (t p))), some (rz_i 1), some (rz_i (nI st)), none], [], h2) := by
          rw [X208_43, e2]
          simp only [bV_some, cd_t, (WLr w1).1]
        rw [st3, X208_46]
        rcases o2 with ⟨e, he, le⟩ | ⟨q, hq, s2⟩
        · rw [he]
          have w2 : Wf rb dr jd h2 := w1.e le.1.1
          obtain ⟨v, h3, e3, le3⟩ := le.add w1 0 0 (d + 23)
          obtain ⟨h4, e4, le4⟩ := T52r w1 le3 (nI (t p)) (nI st) (d + 16) (some (rz_i 1)) none
          refine ⟨h4, ?_, Or.inl ⟨e, rfl, le4.bs f1⟩⟩
          have b6 := obR (WLr w2).2.2.2
          simp only [bI_some, bV_some, bR_some, bL_some, ob_some, cd_t, cd_f, cd_d, okO_setI, okA_setI, okL_setI, aLen_setI, hR_setI, hI_setI, Bool.true_and, Bool.and_true, Bool.and_self, Option.isNone_some, Option.isSome_some, Option.isNone_none, Option.isSome_none, okO_chI, okA_chI, okL_chI, aLen_chI, hR_chI, ↓reduceIte, not_true_eq_false, not_false_eq_true, eq_self, c10, WLr w2, ↓b6, WLw w2 hd, e3]
          exact e4
        · rw [hq]
          have gg := (sum_sp (t := t) (fcG_sp t L 6)).at (by omega) hq
          have gL := gg.1
          have gn := gg.2.2.1
          have w2 : Wf rb dr jd h2 := w1.e s2.1.1
          obtain ⟨h3, e3, s3⟩ := s2.add w1 (by omega) (0, 0) (d + 23)
          rw [vl0] at e3
          have e3 : cW (d + 24) 197 [rz_r (some dr), rz_i 0, rz_i 0] h2 = some (rz_i (nI (st + q.2.2)), h3) := e3
          have w3 : Wf rb dr jd h3 := w1.e s3.1.1
          have T3 := T1.fe hd s3.1.fe
          have v5 : hI h3 dr 5 = nI nr := (s3.1.2 dr 5 (by omega) (by omega) (by omega)).trans q5
          obtain ⟨h4, e4, o4⟩ := T52 w3 T3 hL h240 (p := q.1) (st := st + q.2.2 + 1) (nr := nr) (ca := st) (s := t p) s3.2.1 gL s3.2.2.1 (by omega) v5 c2 (q.2.2, q.2.1) d (some (rz_i 1)) none
          refine ⟨h4, ?_, ?_⟩
          · have b6 := obR (WLr w2).2.2.2
            simp only [bI_some, bV_some, bR_some, bL_some, ob_some, cd_t, cd_f, cd_d, okO_setI, okA_setI, okL_setI, aLen_setI, hR_setI, hI_setI, Bool.true_and, Bool.and_true, Bool.and_self, Option.isNone_some, Option.isSome_some, Option.isNone_none, Option.isSome_none, okO_chI, okA_chI, okL_chI, aLen_chI, hR_chI, ↓reduceIte, not_true_eq_false, not_false_eq_true, eq_self, c10, WLr w2, ↓b6, WLw w2 hd, e3]
            exact e4
          · rcases o4 with ⟨e, he, le⟩ | ⟨q', hq', F4, r4, a1, a2, a3, a4, a5, a6, a7, a8⟩
            · exact Or.inl ⟨e, he, (le.bs s3.1.fe).bs f1⟩
            · obtain ⟨n1, n2⟩ := tail_q hq'
              have ct : ctO st q'.2 = st + q.2.2 + 1 := by
                unfold ctO
                rw [n1, if_pos c3, n2]
              refine Or.inr ⟨q', hq', c2, ⟨F4.1.trans (s3.1.1.trans s1.1.1), fun b i m1 m2 m3 m4 => (F4.2 b i m1 m2 (by omega) m4).trans ((s3.1.2 b i m1 (by omega) m3).trans (s1.1.2 b i m1 (by omega) m3))⟩, r4, a1, by rw [ct]; exact a2, a3, by rw [ct]; exact a4, by rw [n1]; exact a5, a6, by rw [ct]; exact a7, by rw [ct]; exact a8, fun _ => ?_⟩
              rw [n2]
              refine ⟨?_, fun i hi => ?_⟩
              · have a := (s3.2.2.2 q.2.2 (by omega)).1
                have z : psh q.2.1 q.2.2 (0, 0) q.2.2 = (0, 0) := if_pos rfl
                rw [z] at a
                exact (F4.2 _ _ (by omega) (by omega) (by omega) (by omega)).trans a
              · have hi : i < q.2.2 := hi
                have a := s3.2.2.2 i (by omega)
                have z : psh q.2.1 q.2.2 (0, 0) i = q.2.1 i := if_neg (by omega)
                rw [z] at a
                exact ⟨(F4.2 _ _ (by omega) (by omega) (by omega) (by omega)).trans a.1, (F4.2 _ _ (by omega) (by omega) (by omega) (by omega)).trans a.2⟩
      · rw [if_neg c3, if_neg c3]
        simp only [bI_some, bV_some, bR_some, bL_some, ob_some, cd_t, cd_f, cd_d, okO_setI, okA_setI, okL_setI, aLen_setI, hR_setI, hI_setI, Bool.true_and, Bool.and_true, Bool.and_self, Option.isNone_some, Option.isSome_some, Option.isNone_none, Option.isSome_none, okO_chI, okA_chI, okL_chI, aLen_chI, hR_chI, ↓reduceIte, not_true_eq_false, not_false_eq_true, eq_self, c10]
        obtain ⟨h4, e4, o4⟩ := T52 w1 T1 hL h240 (p := p + 1) (st := st) (nr := nr) (ca := st) (s := t p) s1.2.1 (by omega) q6 (by omega) q5 c2 (0, czz) d (some (rz_i 0)) none
        refine ⟨h4, e4, ?_⟩
        rcases o4 with ⟨e, he, le⟩ | ⟨q', hq', F4, r4, a1, a2, a3, a4, a5, a6, a7, a8⟩
        · exact Or.inl ⟨e, he, le.bs f1⟩
        · obtain ⟨n1, n2⟩ := tail_q hq'
          have ct : ctO st q'.2 = st := by
            unfold ctO
            rw [n1, if_neg c3]
          exact Or.inr ⟨q', hq', c2, ⟨F4.1.trans s1.1.1, fun b i m1 m2 m3 m4 => (F4.2 b i m1 m2 m3 m4).trans (s1.1.2 b i m1 (by omega) m3)⟩, r4, a1, by rw [ct]; exact a2, a3, by rw [ct]; exact a4, by rw [n1]; exact a5, a6, by rw [ct]; exact a7, by rw [ct]; exact a8, fun z => absurd (n1 ▸ z) c3⟩
    · rw [if_neg c2]
      have g : ¬ nI nr < 16 := fun z => c2 ((nI_ltI (a := nr) (b := 16) (by omega) (by omega)).mp z)
      refine ⟨setI (setI h 81 3 4) 81 4 (nI p), ?_, Or.inl ⟨_, rfl, s0.bl 4 p (by omega) (by omega)⟩⟩
      simp only [bI_some, bV_some, bR_some, bL_some, ob_some, cd_t, cd_f, cd_d, okO_setI, okA_setI, okL_setI, aLen_setI, hR_setI, hI_setI, Bool.true_and, Bool.and_true, Bool.and_self, Option.isNone_some, Option.isSome_some, Option.isNone_none, Option.isSome_none, okO_chI, okA_chI, okL_chI, aLen_chI, hR_chI, ↓reduceIte, not_true_eq_false, not_false_eq_true, eq_self, c10, WLr w, ↓b5, WLw w hd, E194, e5, g, X208_29, R228 w isR81, r.2.1, R231 w isR81 r.2.2, X208_34]
  · rw [if_neg c1]
    have pe := fun m (hm : m < 1000) => pkk_eq (t := t) (L := L) (p := p) (m := m) hb hm
    have no : ∀ m, m < 1000 → isRl m = true → ¬ pkI t L p = nI m := fun m hm hs z => by
      have := (pe m hm).mp z
      exact c1 ⟨this.1, by rw [this.2]; exact hs⟩
    have n1 : ¬ pkI t L p = 118 := no 118 (by omega) rfl
    have n2 : ¬ pkI t L p = 97 := no 97 (by omega) rfl
    have n3 : ¬ pkI t L p = 108 := no 108 (by omega) rfl
    have n4 : ¬ pkI t L p = 120 := no 120 (by omega) rfl
    refine ⟨setI (setI h 81 3 1) 81 4 (nI p), ?_, Or.inl ⟨_, rfl, s0.bl 1 p (by omega) (by omega)⟩⟩
    simp only [bI_some, bV_some, bR_some, bL_some, ob_some, cd_t, cd_f, cd_d, okO_setI, okA_setI, okL_setI, aLen_setI, hR_setI, hI_setI, Bool.true_and, Bool.and_true, Bool.and_self, Option.isNone_some, Option.isSome_some, Option.isNone_none, Option.isSome_none, okO_chI, okA_chI, okL_chI, aLen_chI, hR_chI, ↓reduceIte, not_true_eq_false, not_false_eq_true, eq_self, c10, X208_3, X208_6, X208_11, X208_13, X208_15, X208_18, X208_21, n1, n2, n3, n4, WLr w, R232 w isR81 r.2.1 r.2.2, X208_23]
