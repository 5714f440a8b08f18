/-! orders: the model's reader -/
def Gm (h h' : rz_H) : Prop := h'.2 = h.2 ∧ ∀ b i, ¬ (b = 109 ∧ (i = 5 ∨ i = 7 ∨ i = 8 ∨ i = 35)) → b ≠ 110 → hI h' b i = hI h b i
theorem Gm.tr {h h1 h2 : rz_H} (a : Gm h h1) (b : Gm h1 h2) : Gm h h2 := ⟨b.1.trans a.1, fun c i n m => (b.2 c i n m).trans (a.2 c i n m)⟩
theorem Gm.fm {h h' : rz_H} (f : Fm h h') : Gm h h' := ⟨f.1, fun b i n _ => f.2 b i (by omega)⟩
theorem Gm.one {h : rz_H} {i : Nat} (hi : i = 5 ∨ i = 7 ∨ i = 8 ∨ i = 35) (x : Int32) : Gm h (setI h 109 i x) := ⟨rfl, fun b j n m => by rw [hI_setI, if_neg (by omega)]⟩
theorem Gm.dr (h : rz_H) (i : Nat) (x : Int32) : Gm h (setI h 110 i x) := ⟨rfl, fun b j n m => by rw [hI_setI, if_neg (by omega)]⟩
def own (k i : Nat) : Prop := (16 * k ≤ i ∧ i < 16 * k + 16) ∨ (128 + 16 * k ≤ i ∧ i < 144 + 16 * k) ∨ (256 ≤ i ∧ i < 304 ∧ i % 8 = k)
theorem LM_ap {h h' : rz_H} {D : Nat → TU} {tk x : Nat} {l : LN} (O : LO D tk x) (M : LM h D tk x) (f : ∀ i, ¬ own l.1 i → hI h' 110 i = hI h 110 i) (k8 : l.1 < 8) (m : tM h' l.1 (apT l (D l.1))) : LM h' (apL l D) tk x := by
  have f : ∀ i, ¬ ((16 * l.1 ≤ i ∧ i < 16 * l.1 + 16) ∨ (128 + 16 * l.1 ≤ i ∧ i < 144 + 16 * l.1) ∨ (256 ≤ i ∧ i < 304 ∧ i % 8 = l.1)) → hI h' 110 i = hI h 110 i := f
  refine ⟨fun j hj => ?_, (f 304 (by omega)).trans M.2.1, (f 305 (by omega)).trans M.2.2⟩
  show tM h' j (if j = l.1 then apT l (D j) else D j)
  by_cases ej : j = l.1
  · rw [if_pos ej, ej]
    exact m
  · rw [if_neg ej]
    have hF : (D j).1 ≤ 16 := (O.1 j hj).1
    obtain ⟨m1, m2, m3, m4, m5, m6, m7⟩ := M.1 j hj
    exact ⟨(f _ (by omega)).trans m1, (f _ (by omega)).trans m2, (f _ (by omega)).trans m3, (f _ (by omega)).trans m4, (f _ (by omega)).trans m5, (f _ (by omega)).trans m6, fun i hi => ⟨(f _ (by omega)).trans (m7 i hi).1, (f _ (by omega)).trans (m7 i hi).2⟩⟩
theorem own_1 {k j i : Nat} (hk : k < 8) (hj : j = 264 ∨ j = 272 ∨ j = 296) (n : ¬ own k i) : ¬ i = j + k := fun e => n (by unfold own; omega)
/-- what is left of an order, the model -/
def Om (h h' : rz_H) (N : Nat) (t : Nat → Nat) (L : Nat) (D : Nat → TU) (tk x k s : Nat) (b : Int32) (z : (Nat × Nat) ⊕ (Nat × Nat × Nat)) : Prop := Gm h h' ∧ hI h' 109 35 = hI h 109 35 ∧ ((∃ e, z = Sum.inl e ∧ b = 0 ∧ hI h' 109 7 = erI e.1 e.2) ∨ (∃ q, z = Sum.inr q ∧ b = 1 ∧ MT h' N t L q.1 ∧ LM h' (apL (k, s, q.2.1, q.2.2) D) tk x))
theorem K81 {rb dr : Nat} {jd : Option Nat} {h : rz_H} (w : Wf rb dr jd h) {N : Nat} {t : Nat → Nat} {L p : Nat} (m : MT h N t L (p + 2)) (hp : p + 2 ≤ L) (h120 : L ≤ 120) {D : Nat → TU} {tk x : Nat} (O : LO D tk x) (M : LM h D tk x) {k : Nat} (k8 : k < 8) (hF : 0 < (D k).1) (d : Nat) : ∃ b h', cW (d + 4) 81 [rz_r (some 109), rz_i (nI k)] h = some (rz_i b, h') ∧ Om h h' N t L D tk x k 35 b (match numT t L 3 (p + 2) with
    | .inl e => Sum.inl e
    | .inr q => tl55 t L (D k).1 p 35 q) := by
  have hF16 : (D k).1 ≤ 16 := (O.1 k k8).1
  have m41 := fun d => M41 w k8 (O.1 k k8) (M.1 k k8) d
  have u : nI (D k).1 - 1 = nI ((D k).1 - 1) := nI_sub (b := 1) (by omega)
  obtain ⟨h1, f1, o1⟩ := K80 w m (by omega) (by omega) (hi := (D k).1 - 1) (by omega) d
  have w1 : Wf rb dr jd h1 := w.e f1.1
  have st : ∀ b, cW (d + 3) 80 [rz_r (some 109), rz_i (nI ((D k).1 - 1))] h = some (rz_i b, h1) → cW (d + 4) 81 [rz_r (some 109), rz_i (nI k)] h = if b = 0 then rW (d + 3) 81 (12, (0, 0), [some (rz_r (some 109)), some (rz_i (nI k)), none], [], h1) else rW (d + 3) 81 (8, (0, 0), [some (rz_r (some 109)), some (rz_i (nI k)), none], [], h1) := fun b e => by
    rw [X81]
    simp only [bI_some, bV_some, bR_some, bL_some, ob_some, cd_t, cd_f, cd_d, okO_setI, okA_setI, okL_setI, aLen_setI, hR_setI, hI_setI, Bool.true_and, Bool.and_true, Bool.and_self, Option.isNone_some, Option.isSome_some, Option.isNone_none, Option.isSome_none, okO_chI, okA_chI, okL_chI, aLen_chI, hR_chI, ↓reduceIte, not_true_eq_false, not_false_eq_true, eq_self, c10, WMd w, m41, u, e]
  have g1 := Gm.fm f1
  have k35 : hI h1 109 35 = hI h 109 35 := f1.2 109 35 (by omega)
  rcases o1 with ⟨e, he, e1, v1⟩ | ⟨q, hq, o1⟩
  · rw [he]
    refine ⟨0, h1, ?_, g1, k35, Or.inl ⟨e, rfl, rfl, v1⟩⟩
    rw [st 0 e1, if_pos rfl, X81_12]
  · rw [hq]
    show ∃ b h', _ ∧ Om h h' N t L D tk x k 35 b (tl55 t L (D k).1 p 35 q)
    unfold tl55
    rcases o1 with ⟨c1, e1, m1, v1⟩ | ⟨c1, e1, v1⟩
    · rw [if_neg (show ¬ ((35 = 64 ∨ 35 = 35) ∧ (D k).1 ≤ q.2) by omega), if_pos rfl]
      have st := st 1 e1
      rw [if_neg (show ¬ (1 : Int32) = 0 by decide), X81_8] at st
      have k52 : ∀ d, cW (d + 2) 52 [rz_r (some 109), rz_i 61] h1 = if q.1 < L ∧ t q.1 = 61 then some (rz_i 1, setI h1 109 5 (nI (q.1 + 1))) else some (rz_i 0, setI h1 109 7 (erI 1 q.1)) := fun d => K52 w1 m1 (c := 61) (by omega) d
      by_cases c2 : q.1 < L ∧ t q.1 = 61
      · rw [if_pos c2]
        let h2 := setI h1 109 5 (nI (q.1 + 1))
        have w2 : Wf rb dr jd h2 := w1
        have f2 : Fm h1 h2 := Fm.one (by omega) _
        have m2 : MT h2 N t L (q.1 + 1) := m1.fm (fun b i hb => f2.2 b i (by omega)) (by show hI (setI h1 109 5 _) 109 5 = _; rw [hI_setI, if_pos ⟨rfl, rfl⟩]) (by omega)
        have v2 : hI h2 109 8 = nI q.2 := by
          show hI (setI h1 109 5 _) 109 8 = _
          rw [hI_setI, if_neg (by omega)]
          exact v1
        have st2 : cW (d + 4) 81 [rz_r (some 109), rz_i (nI k)] h = rW (d + 3) 81 (17, (0, 0), [some (rz_r (some 109)), some (rz_i (nI k)), some (rz_i (pcI (pcT t L (q.1 + 1))))], [], h2) := by
          rw [st]
          simp only [bI_some, bV_some, bR_some, bL_some, ob_some, cd_t, cd_f, cd_d, okO_setI, okA_setI, okL_setI, aLen_setI, hR_setI, hI_setI, Bool.true_and, Bool.and_true, Bool.and_self, Option.isNone_some, Option.isSome_some, Option.isNone_none, Option.isSome_none, okO_chI, okA_chI, okL_chI, aLen_chI, hR_chI, ↓reduceIte, not_true_eq_false, not_false_eq_true, eq_self, c10, WMd w1, k52, if_pos c2, c10]
          rw [show setI h1 109 5 (nI (q.1 + 1)) = h2 from rfl, X81_14, K77 w2 m2]
          simp only [bI_some, bV_some, bR_some, bL_some, ob_some, cd_t, cd_f, cd_d, okO_setI, okA_setI, okL_setI, aLen_setI, hR_setI, hI_setI, Bool.true_and, Bool.and_true, Bool.and_self, Option.isNone_some, Option.isSome_some, Option.isNone_none, Option.isSome_none, okO_chI, okA_chI, okL_chI, aLen_chI, hR_chI, ↓reduceIte, not_true_eq_false, not_false_eq_true, eq_self, c10, WMd w2]
        rw [st2]
        cases hc : pcT t L (q.1 + 1) with
        | none =>
          refine ⟨0, setI h2 109 7 (erI 1 (q.1 + 1)), ?_, (g1.tr (Gm.fm f2)).tr (Gm.one (by omega) _), by rw [hI_setI, if_neg (by omega), f2.2 109 35 (by omega)]; exact k35, Or.inl ⟨_, rfl, rfl, by rw [hI_setI, if_pos ⟨rfl, rfl⟩]⟩⟩
          have k51 := fun d => K51 w2 1 (q.1 + 1) d
          rw [show nI 1 = (1 : Int32) from rfl] at k51
          show rW (d + 3) 81 (17, (0, 0), [some (rz_r (some 109)), some (rz_i (nI k)), some (rz_i (-1))], [], h2) = _
          rw [X81_17]
          simp only [bI_some, bV_some, bR_some, bL_some, ob_some, cd_t, cd_f, cd_d, okO_setI, okA_setI, okL_setI, aLen_setI, hR_setI, hI_setI, Bool.true_and, Bool.and_true, Bool.and_self, Option.isNone_some, Option.isSome_some, Option.isNone_none, Option.isSome_none, okO_chI, okA_chI, okL_chI, aLen_chI, hR_chI, ↓reduceIte, not_true_eq_false, not_false_eq_true, eq_self, c10]
          rw [X81_20, m2.2.2.2.1]
          simp only [bI_some, bV_some, bR_some, bL_some, ob_some, cd_t, cd_f, cd_d, okO_setI, okA_setI, okL_setI, aLen_setI, hR_setI, hI_setI, Bool.true_and, Bool.and_true, Bool.and_self, Option.isNone_some, Option.isSome_some, Option.isNone_none, Option.isSome_none, okO_chI, okA_chI, okL_chI, aLen_chI, hR_chI, ↓reduceIte, not_true_eq_false, not_false_eq_true, eq_self, c10, WMd w2, k51]
          rfl
        | some c =>
          have hcc := pcT_le hc
          let h3 := setI h2 109 5 (nI (q.1 + 2))
          let h4 := setI h3 110 (16 * k + q.2) (nI c)
          let h5 := setI h4 110 (128 + 16 * k + q.2) 0
          have w3 : Wf rb dr jd h3 := w2
          have w4 : Wf rb dr jd h4 := w2
          have f3 : Fm h2 h3 := Fm.one (by omega) _
          have o4 : ∀ b i, ¬ (b = 110 ∧ i = 16 * k + q.2) → hI h4 b i = hI h3 b i := fun b i z => by
            show hI (setI h3 110 _ _) b i = _
            rw [hI_setI, if_neg z]
          have o5 : ∀ b i, ¬ (b = 110 ∧ i = 128 + 16 * k + q.2) → hI h5 b i = hI h4 b i := fun b i z => by
            show hI (setI h4 110 _ _) b i = _
            rw [hI_setI, if_neg z]
          have v3 : hI h3 109 8 = nI q.2 := by
            show hI (setI h2 109 5 _) 109 8 = _
            rw [hI_setI, if_neg (by omega)]
            exact v2
          have v4 : hI h4 109 8 = nI q.2 := (o4 109 8 (by omega)).trans v3
          have m3 : MT h3 N t L (q.1 + 2) := m2.fm (fun b i hb => f3.2 b i (by omega)) (by show hI (setI h2 109 5 _) 109 5 = _; rw [hI_setI, if_pos ⟨rfl, rfl⟩]) (by omega)
          have m5 : MT h5 N t L (q.1 + 2) := m3.fm (fun b i hb => (o5 b i (by omega)).trans (o4 b i (by omega))) ((o5 109 5 (by omega)).trans ((o4 109 5 (by omega)).trans m3.2.2.2.1)) (by omega)
          have of : ∀ b i, ¬ (b = 109 ∧ (i = 5 ∨ i = 7 ∨ i = 8)) → hI h3 b i = hI h b i := fun b i z => (f3.2 b i z).trans ((f2.2 b i z).trans (f1.2 b i z))
          refine ⟨1, h5, ?_, ⟨f3.1.trans (f2.1.trans f1.1), fun b i n1 n2 => (o5 b i (by omega)).trans ((o4 b i (by omega)).trans (of b i (by omega)))⟩, (o5 109 35 (by omega)).trans ((o4 109 35 (by omega)).trans (of 109 35 (by omega))), Or.inr ⟨_, rfl, rfl, m5, ?_⟩⟩
          · have n1 : ¬ nI c = (-1 : Int32) := ne_m1 (by omega)
            have e5 : nI (q.1 + 1) + 1 = nI (q.1 + 2) := by rw [nI_1]
            show rW (d + 3) 81 (17, (0, 0), [some (rz_r (some 109)), some (rz_i (nI k)), some (rz_i (nI c))], [], h2) = _
            rw [X81_17]
            simp only [bI_some, bV_some, bR_some, bL_some, ob_some, cd_t, cd_f, cd_d, okO_setI, okA_setI, okL_setI, aLen_setI, hR_setI, hI_setI, Bool.true_and, Bool.and_true, Bool.and_self, Option.isNone_some, Option.isSome_some, Option.isNone_none, Option.isSome_none, okO_chI, okA_chI, okL_chI, aLen_chI, hR_chI, ↓reduceIte, not_true_eq_false, not_false_eq_true, eq_self, c10, n1]
            rw [X81_26, m2.2.2.2.1, e5]
            simp only [cd_t, (WMd w2).1]
            rw [show setI h2 109 5 (nI (q.1 + 2)) = h3 from rfl, X81_32]
            simp (disch := omega) only [↓cd_d, ↓irem_eq_mod, ↓ob_setI, ↓ob_chI, ↓ob_some, bI_some, bV_some, bR_some, bL_some, ob_some, cd_t, cd_f, okO_setI, okA_setI, okL_setI, aLen_setI, hR_setI, hI_setI, Bool.true_and, Bool.and_true, Bool.and_self, Option.isNone_some, Option.isSome_some, Option.isNone_none, Option.isSome_none, okO_chI, okA_chI, okL_chI, aLen_chI, hR_chI, ↓reduceIte, not_true_eq_false, not_false_eq_true, eq_self, c10, Nat.zero_add, nI_add, litA, litB, litM, nI_mul, nI_leI, nI_ltI, nI_eq, litLe, litLe2, litLt, litLt2, litEq, litEq2, in_nI, lit_in, nI_clamp, lit_cl, if_pos, if_neg, ↓WMb w3, WMd w3, v3]
            rw [show setI h3 110 (16 * k + q.2) (nI c) = h4 from rfl, X81_44]
            simp (disch := omega) only [↓cd_d, ↓irem_eq_mod, ↓ob_setI, ↓ob_chI, ↓ob_some, bI_some, bV_some, bR_some, bL_some, ob_some, cd_t, cd_f, okO_setI, okA_setI, okL_setI, aLen_setI, hR_setI, hI_setI, Bool.true_and, Bool.and_true, Bool.and_self, Option.isNone_some, Option.isSome_some, Option.isNone_none, Option.isSome_none, okO_chI, okA_chI, okL_chI, aLen_chI, hR_chI, ↓reduceIte, not_true_eq_false, not_false_eq_true, eq_self, c10, Nat.zero_add, nI_add, litA, litB, litM, nI_mul, nI_leI, nI_ltI, nI_eq, litLe, litLe2, litLt, litLt2, litEq, litEq2, in_nI, lit_in, nI_clamp, lit_cl, if_pos, if_neg, ↓WMb w4, WMd w4, v4]
            rw [show setI h4 110 (128 + 16 * k + q.2) 0 = h5 from rfl, X81_56]
          · have M3 : LM h3 D tk x := M.to fun i => of 110 i (by omega)
            refine LM_ap O M3 (fun i z => ?_) k8 ?_
            · have z : ¬ ((16 * k ≤ i ∧ i < 16 * k + 16) ∨ (128 + 16 * k ≤ i ∧ i < 144 + 16 * k) ∨ (256 ≤ i ∧ i < 304 ∧ i % 8 = k)) := z
              exact (o5 110 i (by omega)).trans (o4 110 i (by omega))
            · obtain ⟨a1, a2, a3, a4, a5, a6, a7⟩ := M3.1 k k8
              have oo : ∀ i, ¬ i = 16 * k + q.2 → ¬ i = 128 + 16 * k + q.2 → hI h5 110 i = hI h3 110 i := fun i z1 z2 => (o5 110 i (by omega)).trans (o4 110 i (by omega))
              refine ⟨(oo _ (by omega) (by omega)).trans a1, (oo _ (by omega) (by omega)).trans a2, (oo _ (by omega) (by omega)).trans a3, (oo _ (by omega) (by omega)).trans a4, (oo _ (by omega) (by omega)).trans a5, (oo _ (by omega) (by omega)).trans a6, fun i hi => ?_⟩
              have hi : i < (D k).1 := hi
              show hI h5 110 (16 * k + i) = nI (if i = q.2 then c else _) ∧ hI h5 110 (128 + 16 * k + i) = nI (if i = q.2 then 0 else _)
              by_cases ei : i = q.2
              · rw [if_pos ei, if_pos ei, ei]
                refine ⟨?_, ?_⟩
                · rw [o5 110 (16 * k + q.2) (by omega)]
                  show hI (setI h3 110 _ _) 110 _ = _
                  rw [hI_setI, if_pos ⟨rfl, rfl⟩]
                · show hI (setI h4 110 _ _) 110 _ = _
                  rw [hI_setI, if_pos ⟨rfl, rfl⟩]
                  rfl
              · rw [if_neg ei, if_neg ei]
                exact ⟨(oo _ (by omega) (by omega)).trans (a7 i hi).1, (oo _ (by omega) (by omega)).trans (a7 i hi).2⟩
      · rw [if_neg c2]
        refine ⟨0, setI h1 109 7 (erI 1 q.1), ?_, g1.tr (Gm.one (by omega) _), by rw [hI_setI, if_neg (by omega)]; exact k35, Or.inl ⟨_, rfl, rfl, by rw [hI_setI, if_pos ⟨rfl, rfl⟩]⟩⟩
        rw [st]
        simp only [bI_some, bV_some, bR_some, bL_some, ob_some, cd_t, cd_f, cd_d, okO_setI, okA_setI, okL_setI, aLen_setI, hR_setI, hI_setI, Bool.true_and, Bool.and_true, Bool.and_self, Option.isNone_some, Option.isSome_some, Option.isNone_none, Option.isSome_none, okO_chI, okA_chI, okL_chI, aLen_chI, hR_chI, ↓reduceIte, not_true_eq_false, not_false_eq_true, eq_self, c10, WMd w1, k52, if_neg c2, X81_12]
    · rw [if_pos (show (35 = 64 ∨ 35 = 35) ∧ (D k).1 ≤ q.2 by omega)]
      refine ⟨0, h1, ?_, g1, k35, Or.inl ⟨_, rfl, rfl, v1⟩⟩
      rw [st 0 e1, if_pos rfl, X81_12]
theorem K82s {rb dr : Nat} {jd : Option Nat} {h : rz_H} (w : Wf rb dr jd h) {N : Nat} {t : Nat → Nat} {L p : Nat} (m : MT h N t L (p + 2)) (hp : p + 2 ≤ L) (h120 : L ≤ 120) {D : Nat → TU} {tk x : Nat} (O : LO D tk x) (M : LM h D tk x) {k : Nat} (k8 : k < 8) (hF : 0 < (D k).1) {s : Nat} (hs : s = 33 ∨ s = 63 ∨ s = 64 ∨ s = 35 ∨ s = 43 ∨ s = 45) (d : Nat) : ∃ b h', rW (d + 4) 82 (84, (0, 0), [some (rz_r (some 109)), some (rz_i (nI p)), some (rz_i (nI k)), some (rz_i (nI s))], [], h) = some (rz_i b, h') ∧ Om h h' N t L D tk x k s b (if s = 33 ∨ s = 63 then Sum.inr (p + 2, 0, 16) else match numT t L 3 (p + 2) with
    | .inl e => Sum.inl e
    | .inr q => tl55 t L (D k).1 p s q) := by
  have hF16 : (D k).1 ≤ 16 := (O.1 k k8).1
  have lf : Int32.ofNat 33 = 33 ∧ Int32.ofNat 35 = 35 ∧ Int32.ofNat 63 = 63 ∧ Int32.ofNat 64 = 64 := ⟨rfl, rfl, rfl, rfl⟩
  -- one cell of the drum is set
  have fin : ∀ (h1 : rz_H), Fm h h1 → ∀ j y s v c q, (j = 264 ∨ j = 272 ∨ j = 296) → MT h1 N t L q → tM (setI h1 110 (j + k) (nI y)) k (apT (k, s, v, c) (D k)) → Om h (setI h1 110 (j + k) (nI y)) N t L D tk x k s 1 (Sum.inr (q, v, c)) := fun h1 f1 j y s v c q hj m1 tm => by
    have oo : ∀ b i, ¬ (b = 110 ∧ i = j + k) → hI (setI h1 110 (j + k) (nI y)) b i = hI h1 b i := fun b i z => by rw [hI_setI, if_neg z]
    refine ⟨(Gm.fm f1).tr (Gm.dr h1 _ _), (oo 109 35 (by omega)).trans (f1.2 109 35 (by omega)), Or.inr ⟨_, rfl, rfl, m1.fm (fun b i hb => oo b i (by omega)) ((oo 109 5 (by omega)).trans m1.2.2.2.1) m1.2.2.2.2, ?_⟩⟩
    have M1 : LM h1 D tk x := M.to fun i => f1.2 110 i (by omega)
    exact LM_ap O M1 (fun i z => oo 110 i (fun e => own_1 k8 hj z e.2)) k8 tm
  rw [X82_84]
  by_cases b : s = 33 ∨ s = 63
  · rw [if_pos b]
    obtain ⟨a1, a2, a3, a4, a5, a6, a7⟩ := M.1 k k8
    have tm : ∀ y, tM (setI h 110 (296 + k) (nI y)) k ((D k).1, (D k).2.1, (D k).2.2.1, (D k).2.2.2.1, (D k).2.2.2.2.1, y, (D k).2.2.2.2.2.2.1, (D k).2.2.2.2.2.2.2) := fun y => ⟨by rw [hI_setI, if_neg (by omega)]; exact a1, by rw [hI_setI, if_neg (by omega)]; exact a2, by rw [hI_setI, if_neg (by omega)]; exact a3, by rw [hI_setI, if_neg (by omega)]; exact a4, by rw [hI_setI, if_neg (by omega)]; exact a5, by rw [hI_setI, if_pos ⟨rfl, rfl⟩], fun i hi => by
      have hi : i < (D k).1 := hi
      exact ⟨by rw [hI_setI, if_neg (by omega)]; exact (a7 i hi).1, by rw [hI_setI, if_neg (by omega)]; exact (a7 i hi).2⟩⟩
    rcases b with rfl | rfl
    · refine ⟨1, _, ?_, fin h (Fm.rfl h) 296 1 33 0 16 (p + 2) (by omega) m (tm 1)⟩
      simp only [bI_some, bV_some, bR_some, bL_some, ob_some, cd_t, cd_f, cd_d, okO_setI, okA_setI, okL_setI, aLen_setI, hR_setI, hI_setI, Bool.true_and, Bool.and_true, Bool.and_self, Option.isNone_some, Option.isSome_some, Option.isNone_none, Option.isSome_none, okO_chI, okA_chI, okL_chI, aLen_chI, hR_chI, ↓reduceIte, not_true_eq_false, not_false_eq_true, eq_self, c10, lf, show nI 33 = (33 : Int32) from rfl]
      rw [X82_86]
      simp (disch := omega) only [↓cd_d, ↓irem_eq_mod, ↓ob_setI, ↓ob_chI, ↓ob_some, bI_some, bV_some, bR_some, bL_some, ob_some, cd_t, cd_f, okO_setI, okA_setI, okL_setI, aLen_setI, hR_setI, hI_setI, Bool.true_and, Bool.and_true, Bool.and_self, Option.isNone_some, Option.isSome_some, Option.isNone_none, Option.isSome_none, okO_chI, okA_chI, okL_chI, aLen_chI, hR_chI, ↓reduceIte, not_true_eq_false, not_false_eq_true, eq_self, c10, Nat.zero_add, nI_add, litA, litB, litM, nI_mul, nI_leI, nI_ltI, nI_eq, litLe, litLe2, litLt, litLt2, litEq, litEq2, in_nI, lit_in, nI_clamp, lit_cl, if_pos, if_neg, ↓WMb w, WMd w, X82_93]
      rfl
    · refine ⟨1, _, ?_, fin h (Fm.rfl h) 296 0 63 0 16 (p + 2) (by omega) m (tm 0)⟩
      simp only [bI_some, bV_some, bR_some, bL_some, ob_some, cd_t, cd_f, cd_d, okO_setI, okA_setI, okL_setI, aLen_setI, hR_setI, hI_setI, Bool.true_and, Bool.and_true, Bool.and_self, Option.isNone_some, Option.isSome_some, Option.isNone_none, Option.isSome_none, okO_chI, okA_chI, okL_chI, aLen_chI, hR_chI, ↓reduceIte, not_true_eq_false, not_false_eq_true, eq_self, c10, lf, lits, show nI 63 = (63 : Int32) from rfl]
      rw [X82_95]
      simp (disch := omega) only [↓cd_d, ↓irem_eq_mod, ↓ob_setI, ↓ob_chI, ↓ob_some, bI_some, bV_some, bR_some, bL_some, ob_some, cd_t, cd_f, okO_setI, okA_setI, okL_setI, aLen_setI, hR_setI, hI_setI, Bool.true_and, Bool.and_true, Bool.and_self, Option.isNone_some, Option.isSome_some, Option.isNone_none, Option.isSome_none, okO_chI, okA_chI, okL_chI, aLen_chI, hR_chI, ↓reduceIte, not_true_eq_false, not_false_eq_true, eq_self, c10, Nat.zero_add, nI_add, litA, litB, litM, nI_mul, nI_leI, nI_ltI, nI_eq, litLe, litLe2, litLt, litLt2, litEq, litEq2, in_nI, lit_in, nI_clamp, lit_cl, if_pos, if_neg, ↓WMb w, WMd w, X82_102]
      rfl
  · rw [if_neg b]
    by_cases b2 : s = 35
    · subst b2
      obtain ⟨b, h', e, o⟩ := K81 w m hp h120 O M k8 hF d
      refine ⟨b, h', ?_, o⟩
      have hb : (decide (b = 0) || decide (b = 1)) = true := by
        rcases o.2.2 with ⟨e, -, rfl, -⟩ | ⟨q, -, rfl, -⟩
        · rfl
        · rfl
      simp only [bI_some, bV_some, bR_some, bL_some, ob_some, cd_t, cd_f, cd_d, okO_setI, okA_setI, okL_setI, aLen_setI, hR_setI, hI_setI, Bool.true_and, Bool.and_true, Bool.and_self, Option.isNone_some, Option.isSome_some, Option.isNone_none, Option.isSome_none, okO_chI, okA_chI, okL_chI, aLen_chI, hR_chI, ↓reduceIte, not_true_eq_false, not_false_eq_true, eq_self, c10, lf, lits, show nI 35 = (35 : Int32) from rfl]
      rw [X82_104, e]
      simp only [bI_some, hb, cd_t, (WMd w).1]
    · by_cases b3 : s = 64
      · subst b3
        have m41 := fun d => M41 w k8 (O.1 k k8) (M.1 k k8) d
        have u : nI (D k).1 - 1 = nI ((D k).1 - 1) := nI_sub (b := 1) (by omega)
        obtain ⟨h1, f1, o1⟩ := K80 w m (by omega) (by omega) (hi := (D k).1 - 1) (by omega) (d + 1)
        have w1 : Wf rb dr jd h1 := w.e f1.1
        have k35 : hI h1 109 35 = hI h 109 35 := f1.2 109 35 (by omega)
        simp only [bI_some, bV_some, bR_some, bL_some, ob_some, cd_t, cd_f, cd_d, okO_setI, okA_setI, okL_setI, aLen_setI, hR_setI, hI_setI, Bool.true_and, Bool.and_true, Bool.and_self, Option.isNone_some, Option.isSome_some, Option.isNone_none, Option.isSome_none, okO_chI, okA_chI, okL_chI, aLen_chI, hR_chI, ↓reduceIte, not_true_eq_false, not_false_eq_true, eq_self, c10, lf, lits, show nI 64 = (64 : Int32) from rfl]
        rw [X82_108]
        rcases o1 with ⟨e, he, e1, v1⟩ | ⟨q, hq, o1⟩
        · rw [he]
          refine ⟨0, h1, ?_, Gm.fm f1, k35, Or.inl ⟨e, rfl, rfl, v1⟩⟩
          simp only [bI_some, bV_some, bR_some, bL_some, ob_some, cd_t, cd_f, cd_d, okO_setI, okA_setI, okL_setI, aLen_setI, hR_setI, hI_setI, Bool.true_and, Bool.and_true, Bool.and_self, Option.isNone_some, Option.isSome_some, Option.isNone_none, Option.isSome_none, okO_chI, okA_chI, okL_chI, aLen_chI, hR_chI, ↓reduceIte, not_true_eq_false, not_false_eq_true, eq_self, c10, WMd w, m41, u, e1, X82_116]
        · rw [hq]
          show ∃ b h', _ ∧ Om h h' N t L D tk x k 64 b (tl55 t L (D k).1 p 64 q)
          unfold tl55
          rcases o1 with ⟨c1, e1, m1, v1⟩ | ⟨c1, e1, v1⟩
          · rw [if_neg (show ¬ ((64 = 64 ∨ 64 = 35) ∧ (D k).1 ≤ q.2) by omega), if_neg (show ¬ 64 = 35 by omega)]
            obtain ⟨a1, a2, a3, a4, a5, a6, a7⟩ := M.1 k k8
            have ff : ∀ i, hI h1 110 i = hI h 110 i := fun i => f1.2 110 i (by omega)
            refine ⟨1, _, ?_, fin h1 f1 264 q.2 64 q.2 16 q.1 (by omega) m1 ⟨by rw [hI_setI, if_neg (by omega), ff]; exact a1, by rw [hI_setI, if_pos ⟨rfl, rfl⟩]; rfl, by rw [hI_setI, if_neg (by omega), ff]; exact a3, by rw [hI_setI, if_neg (by omega), ff]; exact a4, by rw [hI_setI, if_neg (by omega), ff]; exact a5, by rw [hI_setI, if_neg (by omega), ff]; exact a6, fun i hi => by
              have hi : i < (D k).1 := hi
              exact ⟨by rw [hI_setI, if_neg (by omega), ff]; exact (a7 i hi).1, by rw [hI_setI, if_neg (by omega), ff]; exact (a7 i hi).2⟩⟩⟩
            simp only [bI_some, bV_some, bR_some, bL_some, ob_some, cd_t, cd_f, cd_d, okO_setI, okA_setI, okL_setI, aLen_setI, hR_setI, hI_setI, Bool.true_and, Bool.and_true, Bool.and_self, Option.isNone_some, Option.isSome_some, Option.isNone_none, Option.isSome_none, okO_chI, okA_chI, okL_chI, aLen_chI, hR_chI, ↓reduceIte, not_true_eq_false, not_false_eq_true, eq_self, c10, WMd w, m41, u, e1, c10]
            rw [X82_118, v1]
            simp (disch := omega) only [↓cd_d, ↓irem_eq_mod, ↓ob_setI, ↓ob_chI, ↓ob_some, bI_some, bV_some, bR_some, bL_some, ob_some, cd_t, cd_f, okO_setI, okA_setI, okL_setI, aLen_setI, hR_setI, hI_setI, Bool.true_and, Bool.and_true, Bool.and_self, Option.isNone_some, Option.isSome_some, Option.isNone_none, Option.isSome_none, okO_chI, okA_chI, okL_chI, aLen_chI, hR_chI, ↓reduceIte, not_true_eq_false, not_false_eq_true, eq_self, c10, Nat.zero_add, nI_add, litA, litB, litM, nI_mul, nI_leI, nI_ltI, nI_eq, litLe, litLe2, litLt, litLt2, litEq, litEq2, in_nI, lit_in, nI_clamp, lit_cl, if_pos, if_neg, ↓WMb w1, WMd w1, X82_126]
          · rw [if_pos (show (64 = 64 ∨ 64 = 35) ∧ (D k).1 ≤ q.2 by omega)]
            refine ⟨0, h1, ?_, Gm.fm f1, k35, Or.inl ⟨_, rfl, rfl, v1⟩⟩
            simp only [bI_some, bV_some, bR_some, bL_some, ob_some, cd_t, cd_f, cd_d, okO_setI, okA_setI, okL_setI, aLen_setI, hR_setI, hI_setI, Bool.true_and, Bool.and_true, Bool.and_self, Option.isNone_some, Option.isSome_some, Option.isNone_none, Option.isSome_none, okO_chI, okA_chI, okL_chI, aLen_chI, hR_chI, ↓reduceIte, not_true_eq_false, not_false_eq_true, eq_self, c10, WMd w, m41, u, e1, X82_116]
      · have b4 : s = 43 ∨ s = 45 := by omega
        obtain ⟨h1, f1, o1⟩ := K80 w m (by omega) (by omega) (hi := 999) (by omega) (d + 1)
        have o1 : (∃ e, numT t L 3 (p + 2) = Sum.inl e ∧ cW (d + 4) 80 [rz_r (some 109), rz_i 999] h = some (rz_i 0, h1) ∧ hI h1 109 7 = erI e.1 e.2) ∨ (∃ q, numT t L 3 (p + 2) = Sum.inr q ∧ ((q.2 ≤ 999 ∧ cW (d + 4) 80 [rz_r (some 109), rz_i 999] h = some (rz_i 1, h1) ∧ MT h1 N t L q.1 ∧ hI h1 109 8 = nI q.2) ∨ (¬ q.2 ≤ 999 ∧ cW (d + 4) 80 [rz_r (some 109), rz_i 999] h = some (rz_i 0, h1) ∧ hI h1 109 7 = erI 3 (p + 2)))) := o1
        have w1 : Wf rb dr jd h1 := w.e f1.1
        have k35 : hI h1 109 35 = hI h 109 35 := f1.2 109 35 (by omega)
        have st : rW (d + 4) 82 (84, (0, 0), [some (rz_r (some 109)), some (rz_i (nI p)), some (rz_i (nI k)), some (rz_i (nI s))], [], h) = rW (d + 4) 82 (128, (0, 0), [some (rz_r (some 109)), some (rz_i (nI p)), some (rz_i (nI k)), some (rz_i (nI s))], [], h) := by
          rw [X82_84]
          rcases b4 with rfl | rfl
          · simp only [bI_some, bV_some, bR_some, bL_some, ob_some, cd_t, cd_f, cd_d, okO_setI, okA_setI, okL_setI, aLen_setI, hR_setI, hI_setI, Bool.true_and, Bool.and_true, Bool.and_self, Option.isNone_some, Option.isSome_some, Option.isNone_none, Option.isSome_none, okO_chI, okA_chI, okL_chI, aLen_chI, hR_chI, ↓reduceIte, not_true_eq_false, not_false_eq_true, eq_self, c10, lf, lits, show nI 43 = (43 : Int32) from rfl]
          · simp only [bI_some, bV_some, bR_some, bL_some, ob_some, cd_t, cd_f, cd_d, okO_setI, okA_setI, okL_setI, aLen_setI, hR_setI, hI_setI, Bool.true_and, Bool.and_true, Bool.and_self, Option.isNone_some, Option.isSome_some, Option.isNone_none, Option.isSome_none, okO_chI, okA_chI, okL_chI, aLen_chI, hR_chI, ↓reduceIte, not_true_eq_false, not_false_eq_true, eq_self, c10, lf, lits, show nI 45 = (45 : Int32) from rfl]
        rw [← X82_84, st, X82_128]
        rcases o1 with ⟨e, he, e1, v1⟩ | ⟨q, hq, o1⟩
        · rw [he]
          refine ⟨0, h1, ?_, Gm.fm f1, k35, Or.inl ⟨e, rfl, rfl, v1⟩⟩
          simp only [bI_some, bV_some, bR_some, bL_some, ob_some, cd_t, cd_f, cd_d, okO_setI, okA_setI, okL_setI, aLen_setI, hR_setI, hI_setI, Bool.true_and, Bool.and_true, Bool.and_self, Option.isNone_some, Option.isSome_some, Option.isNone_none, Option.isSome_none, okO_chI, okA_chI, okL_chI, aLen_chI, hR_chI, ↓reduceIte, not_true_eq_false, not_false_eq_true, eq_self, c10, WMd w, e1, X82_132]
        · rw [hq]
          have q9 : q.2 + 1 ≤ 10 ^ 3 := by
            rcases numT_ok t L 3 (p + 2) (by omega) with ⟨e', he', -⟩ | ⟨q', hq', -, -, z⟩
            · rw [hq] at he'
              exact absurd he' (by simp)
            · rw [hq] at hq'
              have : q = q' := by simpa using hq'
              subst this
              exact z
          have q9 : q.2 + 1 ≤ 1000 := q9
          rcases o1 with ⟨c1, e1, m1, v1⟩ | ⟨c1, e1, v1⟩
          · show ∃ b h', _ ∧ Om h h' N t L D tk x k s b (tl55 t L (D k).1 p s q)
            unfold tl55
            rw [if_neg (show ¬ ((s = 64 ∨ s = 35) ∧ (D k).1 ≤ q.2) by omega), if_neg b2]
            obtain ⟨a1, a2, a3, a4, a5, a6, a7⟩ := M.1 k k8
            have t9 : (D k).2.2.1 ≤ 999 := (O.1 k k8).2.1
            have ff : ∀ i, hI h1 110 i = hI h 110 i := fun i => f1.2 110 i (by omega)
            have a3' : hI h1 110 (272 + k) = nI (D k).2.2.1 := (ff _).trans a3
            have tm : ∀ y, tM (setI h1 110 (272 + k) (nI y)) k ((D k).1, (D k).2.1, y, (D k).2.2.2) := fun y => ⟨by rw [hI_setI, if_neg (by omega), ff]; exact a1, by rw [hI_setI, if_neg (by omega), ff]; exact a2, by rw [hI_setI, if_pos ⟨rfl, rfl⟩], by rw [hI_setI, if_neg (by omega), ff]; exact a4, by rw [hI_setI, if_neg (by omega), ff]; exact a5, by rw [hI_setI, if_neg (by omega), ff]; exact a6, fun i hi => by
              have hi : i < (D k).1 := hi
              exact ⟨by rw [hI_setI, if_neg (by omega), ff]; exact (a7 i hi).1, by rw [hI_setI, if_neg (by omega), ff]; exact (a7 i hi).2⟩⟩
            rcases b4 with rfl | rfl
            · refine ⟨1, _, ?_, fin h1 f1 272 (min 999 ((D k).2.2.1 + q.2)) 43 q.2 16 q.1 (by omega) m1 (tm _)⟩
              have cc : mx 0 (mn 999 (nI (D k).2.2.1 + nI q.2)) = nI (min 999 ((D k).2.2.1 + q.2)) := c999_add t9 (by omega)
              have cc' : mx 0 (mn 999 (nI ((D k).2.2.1 + q.2))) = nI (min 999 ((D k).2.2.1 + q.2)) := by rw [← cc, nI_add]
              simp only [bI_some, bV_some, bR_some, bL_some, ob_some, cd_t, cd_f, cd_d, okO_setI, okA_setI, okL_setI, aLen_setI, hR_setI, hI_setI, Bool.true_and, Bool.and_true, Bool.and_self, Option.isNone_some, Option.isSome_some, Option.isNone_none, Option.isSome_none, okO_chI, okA_chI, okL_chI, aLen_chI, hR_chI, ↓reduceIte, not_true_eq_false, not_false_eq_true, eq_self, c10, WMd w, e1, c10]
              rw [X82_134, v1, show nI 43 = (43 : Int32) from rfl]
              simp (disch := omega) only [↓cd_d, ↓irem_eq_mod, ↓ob_setI, ↓ob_chI, ↓ob_some, bI_some, bV_some, bR_some, bL_some, ob_some, cd_t, cd_f, okO_setI, okA_setI, okL_setI, aLen_setI, hR_setI, hI_setI, Bool.true_and, Bool.and_true, Bool.and_self, Option.isNone_some, Option.isSome_some, Option.isNone_none, Option.isSome_none, okO_chI, okA_chI, okL_chI, aLen_chI, hR_chI, ↓reduceIte, not_true_eq_false, not_false_eq_true, eq_self, c10, Nat.zero_add, nI_add, litA, litB, litM, nI_mul, nI_leI, nI_ltI, nI_eq, litLe, litLe2, litLt, litLt2, litEq, litEq2, in_nI, lit_in, nI_clamp, lit_cl, if_pos, if_neg, ↓WMb w1, WMd w1, a3', S34, S35, cc, cc', X82_160]
            · refine ⟨1, _, ?_, fin h1 f1 272 ((D k).2.2.1 - q.2) 45 q.2 16 q.1 (by omega) m1 (tm _)⟩
              have cc : mx 0 (mn 999 (nI (D k).2.2.1 + -(nI q.2))) = nI ((D k).2.2.1 - q.2) := c999_sub t9 (by omega)
              simp only [bI_some, bV_some, bR_some, bL_some, ob_some, cd_t, cd_f, cd_d, okO_setI, okA_setI, okL_setI, aLen_setI, hR_setI, hI_setI, Bool.true_and, Bool.and_true, Bool.and_self, Option.isNone_some, Option.isSome_some, Option.isNone_none, Option.isSome_none, okO_chI, okA_chI, okL_chI, aLen_chI, hR_chI, ↓reduceIte, not_true_eq_false, not_false_eq_true, eq_self, c10, WMd w, e1, c10]
              rw [X82_134, v1, show nI 45 = (45 : Int32) from rfl]
              simp (disch := omega) only [↓cd_d, ↓irem_eq_mod, ↓ob_setI, ↓ob_chI, ↓ob_some, bI_some, bV_some, bR_some, bL_some, ob_some, cd_t, cd_f, okO_setI, okA_setI, okL_setI, aLen_setI, hR_setI, hI_setI, Bool.true_and, Bool.and_true, Bool.and_self, Option.isNone_some, Option.isSome_some, Option.isNone_none, Option.isSome_none, okO_chI, okA_chI, okL_chI, aLen_chI, hR_chI, ↓reduceIte, not_true_eq_false, not_false_eq_true, eq_self, c10, Nat.zero_add, nI_add, litA, litB, litM, nI_mul, nI_leI, nI_ltI, nI_eq, litLe, litLe2, litLt, litLt2, litEq, litEq2, in_nI, lit_in, nI_clamp, lit_cl, if_pos, if_neg, lits, ↓WMb w1, WMd w1, a3', S34, S35, cc, X82_160]
          · omega
