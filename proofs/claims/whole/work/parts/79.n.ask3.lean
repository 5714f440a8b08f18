/-! done, often -/
abbrev QS : Type := (Nat → TU) × Nat × Nat
def drp (S : PS) : QS := (S.1, S.2.1, S.2.2.1)
def st1 (h0 : rz_H) (Q : QS) : QS := drp (tk1 h0 (Q.1, Q.2.1, Q.2.2, 0))
def QO (Q : QS) : Prop := LO Q.1 Q.2.1 Q.2.2
theorem drp_O {S : PS} (O : PO S) : QO (drp S) := O
theorem st1_ok (h0 : rz_H) {Q : QS} (O : QO Q) (h : Q.2.1 < 9999) : QO (st1 h0 Q) := drp_O (tk1_ok h0 (S := (Q.1, Q.2.1, Q.2.2, 0)) O h)
theorem drp_F (S : PS) (j : Nat) : ((drp S).1 j).1 = (S.1 j).1 := rfl
theorem st1_F (h0 : rz_H) (Q : QS) (j : Nat) : ((st1 h0 Q).1 j).1 = (Q.1 j).1 := by
  rw [st1, drp_F, tk1_F]
theorem tkf_g (h0 : rz_H) (tk k : Nat) {S S' : SS} (e1 : S.1 = S'.1) (e2 : S.2.1 = S'.2.1) : (tkf h0 tk k S).1 = (tkf h0 tk k S').1 ∧ (tkf h0 tk k S).2.1 = (tkf h0 tk k S').2.1 := by
  unfold tkf
  rw [e1, e2]
  split
  · exact ⟨rfl, rfl⟩
  · exact ⟨e1, e2⟩
theorem tks_g (h0 : rz_H) (tk : Nat) : ∀ c i (S S' : SS), S.1 = S'.1 → S.2.1 = S'.2.1 → (itr (tkf h0 tk) i c S).1 = (itr (tkf h0 tk) i c S').1 ∧ (itr (tkf h0 tk) i c S).2.1 = (itr (tkf h0 tk) i c S').2.1
  | 0, _, _, _, e1, e2 => ⟨e1, e2⟩
  | c + 1, i, S, S', e1, e2 => by
    obtain ⟨a, b⟩ := tkf_g h0 tk i e1 e2
    exact tks_g h0 tk c (i + 1) _ _ a b
theorem mkP_d {r r' : SS} (t : Nat) (e1 : r.1 = r'.1) (e2 : r.2.1 = r'.2.1) : drp (mkP r t) = drp (mkP r' t) := by
  unfold drp mkP
  rw [e1, e2]
theorem tk1_d (h0 : rz_H) (D : Nat → TU) (tk x g : Nat) : drp (tk1 h0 (D, tk, x, g)) = st1 h0 (D, tk, x) := by
  obtain ⟨a, b⟩ := tks_g h0 tk 8 0 (D, x, g) (D, x, 0) rfl rfl
  have a' : (tks h0 tk (D, x, g)).1 = (tks h0 tk (D, x, 0)).1 := by rw [tks, tks]; exact a
  have b' : (tks h0 tk (D, x, g)).2.1 = (tks h0 tk (D, x, 0)).2.1 := by rw [tks, tks]; exact b
  rw [st1, tk1, tk1]
  dsimp only
  exact mkP_d _ a' b'
theorem nI_all (x : Int32) : ∃ n, x = nI n := ⟨x.toBitVec.toNat, b_ext fun i hi => by rw [bt_nI _ hi]; rfl⟩
def QC (k : rz_H) (A : Nat) (Q : QS) : Prop := LC k A Q.1 Q.2.1 Q.2.2
def QM (k : rz_H) (Q : QS) : Prop := LM k Q.1 Q.2.1 Q.2.2
theorem drp_M {k : rz_H} {S : PS} (M : LM k S.1 S.2.1 S.2.2.1) : QM k (drp S) := M
theorem drp_C {k : rz_H} {A : Nat} {S : PS} (C : LC k A S.1 S.2.1 S.2.2.1) : QC k A (drp S) := C
/-- one tick by itself -/
theorem M86q {rb dr : Nat} {jd : Option Nat} {h : rz_H} (w : Wf rb dr jd h) {h0 : rz_H} (R : LwRel h0 rb) (l : Mlw h0 h) {Q : QS} (O : QO Q) (hl : Q.2.1 < 9999) (M : QM h Q) {gn : Nat} (hg : hI h 109 36 = nI gn) (d : Nat) : ∃ k', cW (d + 6) 86 [rz_r (some 109)] h = some (rz_i 0, k') ∧ k'.2 = h.2 ∧ QM k' (st1 h0 Q) ∧ (∃ gn', hI k' 109 36 = nI gn') ∧ Mg h k' := by
  obtain ⟨D, tk, x⟩ := Q
  obtain ⟨k', e, z, M', g, f⟩ := M86 w R l (S := (D, tk, x, gn)) O hl M hg d
  refine ⟨k', e, z, ?_, ⟨_, g⟩, f⟩
  rw [← tk1_d h0 D tk x gn]
  exact drp_M M'
theorem C187q {rb dr : Nat} {jd : Option Nat} {h : rz_H} (w : Wf rb dr jd h) {h0 : rz_H} (R : LwRel h0 rb) {A : Nat} (hA : isL A) (E : Ecl h0 rb h) {Q : QS} (O : QO Q) (C : QC h A Q) (d : Nat) : ∃ g k', cW (d + 8) 187 [rz_r (some A), rz_i 1, rz_r (some 95)] h = some (rz_i g, k') ∧ (∃ jd, Wf rb dr jd k') ∧ QC k' A (if Q.2.1 < 9999 then st1 h0 Q else Q) ∧ Lf A h k' := by
  obtain ⟨D, tk, x⟩ := Q
  obtain ⟨k', e, w', C', f⟩ := C187 w R hA E O C (n := 1) (by omega) d
  refine ⟨_, k', e, w', ?_, f⟩
  by_cases c : tk < 9999
  · rw [if_pos (show (D, tk, x).2.1 < 9999 from c)]
    have hp : pas h0 1 (D, tk, x, 0) = tk1 h0 (D, tk, x, 0) := by rw [pas, if_pos (show (D, tk, x, 0).2.1 < 9999 from c), pas]
    rw [hp] at C'
    exact drp_C C'
  · rw [if_neg (show ¬ (D, tk, x).2.1 < 9999 from c)]
    have hp : pas h0 1 (D, tk, x, 0) = (D, tk, x, 0) := by rw [pas, if_neg (show ¬ (D, tk, x, 0).2.1 < 9999 from c)]
    rw [hp] at C'
    exact drp_C C'
def dnC (h0 : rz_H) (k : Nat) : Nat → Nat → QS → Int32
  | 0, _, _ => -2
  | c + 1, i, Q => if rnS (if Q.2.1 < 9999 then st1 h0 Q else Q).1 k = true then dnC h0 k c (i + 1) (if Q.2.1 < 9999 then st1 h0 Q else Q) else nI i
def dnM (h0 : rz_H) (k : Nat) : Nat → Nat → QS → Int32
  | 0, j, Q => if rnS Q.1 k = true then -2 else nI j
  | c + 1, j, Q => if rnS Q.1 k = true then (if Q.2.1 < 9999 then dnM h0 k c (j + 1) (st1 h0 Q) else -2) else nI j
theorem dnC_end (h0 : rz_H) (k : Nat) {Q : QS} (hr : rnS Q.1 k = true) (ht : ¬ Q.2.1 < 9999) : ∀ c i, dnC h0 k c i Q = -2
  | 0, _ => rfl
  | c + 1, i => by
    rw [dnC, if_neg ht, if_pos hr]
    exact dnC_end h0 k hr ht c (i + 1)
theorem dn_eq (h0 : rz_H) (k : Nat) : ∀ c j Q, rnS Q.1 k = true → dnC h0 k c (j + 1) Q = dnM h0 k c j Q
  | 0, j, Q, hr => by
    rw [dnM, if_pos hr]
    rfl
  | c + 1, j, Q, hr => by
    rw [dnM, if_pos hr]
    by_cases ht : Q.2.1 < 9999
    · rw [dnC, if_pos ht, if_pos ht]
      by_cases h2 : rnS (st1 h0 Q).1 k = true
      · rw [if_pos h2]
        exact dn_eq h0 k c (j + 1) (st1 h0 Q) h2
      · rw [if_neg h2]
        cases c with
        | zero => rw [dnM, if_neg h2]
        | succ c => rw [dnM, if_neg h2]
    · rw [if_neg ht, dnC_end h0 k hr ht]
def ofn (h0 : rz_H) (k : Nat) (y : Int32) : Nat → QS → Nat → Nat
  | 0, _, m => m
  | c + 1, Q, m => if Q.2.1 < 9999 then ofn h0 k y c (st1 h0 Q) (if nI (shT ((st1 h0 Q).1 k)) = y then m + 1 else m) else m
theorem QC.F {k : rz_H} {A : Nat} {Q : QS} (C : QC k A Q) {j : Nat} (hj : j < 8) : tC k (A + 2 + 3 * j) (Q.1 j) := C.1 j hj
theorem C10l {rb dr : Nat} {h0 hs : rz_H} (R : LwRel h0 rb) (hr : rb = 82 ∨ rb = 96) (E : Ecl h0 rb hs) {kk n : Nat} (hk : kk < 8) (hn : n ≤ 240) : ∀ c i Q k j1 j3, i + c = n + 1 → QO Q → 0 < (Q.1 kk).1 → (∃ jd, Wf rb dr jd k) → QC k 55 Q → Lf 55 hs k → ∃ k', rW 99 10 (36, (0, 0), [some (rz_r (some 0)), j1, some (rz_i (nI n)), j3, some (rz_r (some (55 + 2 + 3 * kk))), some (rz_i (nI i))], [], k) = some (rz_i (dnC h0 kk c i Q), k') ∧ (∃ jd, Wf rb dr jd k') ∧ Lf 55 hs k' := by
  have hL5 : isL 55 := Or.inr (Or.inr rfl)
  intro c
  induction c with
  | zero =>
    intro i Q k j1 j3 hi O hF ⟨jd, w⟩ C f
    refine ⟨k, ?_, ⟨jd, w⟩, f⟩
    rw [E10_36]
    simp (disch := omega) only [↓cd_d, ↓irem_eq_mod, ↓ob_setI, ↓ob_chI, ↓ob_some, bI_some, bV_some, bR_some, bL_some, ob_some, cd_t, cd_f, okO_setI, okA_setI, okL_setI, aLen_setI, hR_setI, hI_setI, Bool.true_and, Bool.and_true, Bool.and_self, Option.isNone_some, Option.isSome_some, Option.isNone_none, Option.isSome_none, okO_chI, okA_chI, okL_chI, aLen_chI, hR_chI, ↓reduceIte, not_true_eq_false, not_false_eq_true, eq_self, c10, Nat.zero_add, nI_add, litA, litB, litM, nI_mul, nI_leI, nI_ltI, nI_eq, litLe, litLe2, litLt, litLt2, litEq, litEq2, in_nI, lit_in, nI_clamp, lit_cl, if_pos, if_neg]
    rfl
  | succ c ih =>
    intro i Q k j1 j3 hi O hF ⟨jd, w⟩ C f
    obtain ⟨g, k2, e2, ⟨jd2, w2⟩, C2, f2⟩ := C187q w R hL5 (E.lf hL5 hr f) O C 91
    rw [dnC]
    have O2 : QO (if Q.2.1 < 9999 then st1 h0 Q else Q) := by
      split
      · rename_i c; exact st1_ok h0 O c
      · exact O
    have F2 : 0 < ((if Q.2.1 < 9999 then st1 h0 Q else Q).1 kk).1 := by
      split
      · rw [st1_F]; exact hF
      · exact hF
    generalize (if Q.2.1 < 9999 then st1 h0 Q else Q) = Q2 at C2 O2 F2 ⊢
    obtain ⟨-, hd⟩ := WLk w2 hL5 hk
    have c143 := C143 w2 hd (O2.1 kk hk) (C2.1 kk hk)
    rw [show rnT (Q2.1 kk).1 (Q2.1 kk).2.2.1 (Q2.1 kk).2.2.2.2.2.1 = rnS Q2.1 kk from rfl] at c143
    cases hrn : rnS Q2.1 kk with
    | true =>
      rw [hrn] at c143
      obtain ⟨k3, e3, w3, f3⟩ := ih (i + 1) Q2 k2 none none (by omega) O2 F2 ⟨jd2, w2⟩ C2 (f.trans f2)
      refine ⟨k3, ?_, w3, f3⟩
      rw [if_pos rfl, E10_36]
      simp (disch := omega) only [↓cd_d, ↓irem_eq_mod, ↓ob_setI, ↓ob_chI, ↓ob_some, bI_some, bV_some, bR_some, bL_some, ob_some, cd_t, cd_f, okO_setI, okA_setI, okL_setI, aLen_setI, hR_setI, hI_setI, Bool.true_and, Bool.and_true, Bool.and_self, Option.isNone_some, Option.isSome_some, Option.isNone_none, Option.isSome_none, okO_chI, okA_chI, okL_chI, aLen_chI, hR_chI, ↓reduceIte, not_true_eq_false, not_false_eq_true, eq_self, c10, Nat.zero_add, nI_add, litA, litB, litM, nI_mul, nI_leI, nI_ltI, nI_eq, litLe, litLe2, litLt, litLt2, litEq, litEq2, in_nI, lit_in, nI_clamp, lit_cl, if_pos, if_neg, ↓WCb w, WRt w, e2, WD w2 hd, c143, bI1]
      exact e3
    | false =>
      rw [hrn] at c143
      refine ⟨k2, ?_, ⟨jd2, w2⟩, f.trans f2⟩
      rw [if_neg (by simp), E10_36]
      simp (disch := omega) only [↓cd_d, ↓irem_eq_mod, ↓ob_setI, ↓ob_chI, ↓ob_some, bI_some, bV_some, bR_some, bL_some, ob_some, cd_t, cd_f, okO_setI, okA_setI, okL_setI, aLen_setI, hR_setI, hI_setI, Bool.true_and, Bool.and_true, Bool.and_self, Option.isNone_some, Option.isSome_some, Option.isNone_none, Option.isSome_none, okO_chI, okA_chI, okL_chI, aLen_chI, hR_chI, ↓reduceIte, not_true_eq_false, not_false_eq_true, eq_self, c10, Nat.zero_add, nI_add, litA, litB, litM, nI_mul, nI_leI, nI_ltI, nI_eq, litLe, litLe2, litLt, litLt2, litEq, litEq2, in_nI, lit_in, nI_clamp, lit_cl, if_pos, if_neg, ↓WCb w, WRt w, e2, WD w2 hd, c143, bI1, Bool.false_eq_true]
theorem M95l {rb dr : Nat} {jd : Option Nat} {h0 hs : rz_H} (R : LwRel h0 rb) (w0 : Wf rb dr jd hs) (l : Mlw h0 hs) {kk n : Nat} (hk : kk < 8) (hn : n ≤ 240) : ∀ c i Q k j4, i + c = n → QO Q → k.2 = hs.2 → QM k Q → (∃ gn, hI k 109 36 = nI gn) → Mg hs k → ∃ m1 m2, rW 99 95 (18, (0, 0), [some (rz_r (some 109)), some (rz_i (nI kk)), some (rz_i (nI n)), some (rz_i (nI i)), j4], [], k) = some (rz_i (dnM h0 kk c i Q), m2) ∧ Mg hs m1 ∧ Wf rb dr jd m2 ∧ (∀ i, i < 306 → hI m2 110 i = hI m1 111 i) ∧ ∀ b i, b ≠ 110 → hI m2 b i = hI m1 b i := by
  intro c
  induction c with
  | zero =>
    intro i Q k j4 hi O z M g f
    have w : Wf rb dr jd k := w0.e z
    obtain ⟨m2, e4, v2, b1, b2⟩ := putM w
    have c45 := M45 w hk (O.1 kk hk) (M.1 kk hk)
    rw [show rnT (Q.1 kk).1 (Q.1 kk).2.2.1 (Q.1 kk).2.2.2.2.2.1 = rnS Q.1 kk from rfl] at c45
    refine ⟨k, m2, ?_, f, v2, b1, b2⟩
    rw [dnM, X95_18]
    cases hrn : rnS Q.1 kk with
    | true =>
      rw [hrn] at c45
      simp (disch := omega) only [↓cd_d, ↓irem_eq_mod, ↓ob_setI, ↓ob_chI, ↓ob_some, bI_some, bV_some, bR_some, bL_some, ob_some, cd_t, cd_f, okO_setI, okA_setI, okL_setI, aLen_setI, hR_setI, hI_setI, Bool.true_and, Bool.and_true, Bool.and_self, Option.isNone_some, Option.isSome_some, Option.isNone_none, Option.isSome_none, okO_chI, okA_chI, okL_chI, aLen_chI, hR_chI, ↓reduceIte, not_true_eq_false, not_false_eq_true, eq_self, c10, Nat.zero_add, nI_add, litA, litB, litM, nI_mul, nI_leI, nI_ltI, nI_eq, litLe, litLe2, litLt, litLt2, litEq, litEq2, in_nI, lit_in, nI_clamp, lit_cl, if_pos, if_neg, WMd w, c45, bI1, X95_22, X95_38, X95_44, X95_46, ↓WMb w, e4, X95_51, X95_55]
    | false =>
      rw [hrn] at c45
      simp (disch := omega) only [↓cd_d, ↓irem_eq_mod, ↓ob_setI, ↓ob_chI, ↓ob_some, bI_some, bV_some, bR_some, bL_some, ob_some, cd_t, cd_f, okO_setI, okA_setI, okL_setI, aLen_setI, hR_setI, hI_setI, Bool.true_and, Bool.and_true, Bool.and_self, Option.isNone_some, Option.isSome_some, Option.isNone_none, Option.isSome_none, okO_chI, okA_chI, okL_chI, aLen_chI, hR_chI, ↓reduceIte, not_true_eq_false, not_false_eq_true, eq_self, c10, Nat.zero_add, nI_add, litA, litB, litM, nI_mul, nI_leI, nI_ltI, nI_eq, litLe, litLe2, litLt, litLt2, litEq, litEq2, in_nI, lit_in, nI_clamp, lit_cl, if_pos, if_neg, WMd w, c45, bI1, X95_38, X95_42, X95_46, ↓WMb w, e4, X95_51, X95_53, Bool.false_eq_true]
  | succ c ih =>
    intro i Q k j4 hi O z M ⟨gn, hg⟩ f
    have w : Wf rb dr jd k := w0.e z
    have c45 := M45 w hk (O.1 kk hk) (M.1 kk hk)
    rw [show rnT (Q.1 kk).1 (Q.1 kk).2.2.1 (Q.1 kk).2.2.2.2.2.1 = rnS Q.1 kk from rfl] at c45
    have t1 := M.2.1
    have t2 := O.2.1
    rw [dnM]
    cases hrn : rnS Q.1 kk with
    | true =>
      rw [hrn] at c45
      rw [if_pos rfl]
      by_cases ht : Q.2.1 < 9999
      · obtain ⟨k2, e2, z2, M2, g2, f2⟩ := M86q w R (l.mg f) O ht M hg 93
        obtain ⟨m1, m2, e3, y1, y2, y3, y4⟩ := ih (i + 1) (st1 h0 Q) k2 none (by omega) (st1_ok h0 O ht) (z2.trans z) M2 g2 (f.trans f2)
        refine ⟨m1, m2, ?_, y1, y2, y3, y4⟩
        rw [if_pos ht, X95_18]
        generalize dnM h0 kk c (i + 1) (st1 h0 Q) = V at e3 ⊢
        simp (disch := omega) only [↓cd_d, ↓irem_eq_mod, ↓ob_setI, ↓ob_chI, ↓ob_some, bI_some, bV_some, bR_some, bL_some, ob_some, cd_t, cd_f, okO_setI, okA_setI, okL_setI, aLen_setI, hR_setI, hI_setI, Bool.true_and, Bool.and_true, Bool.and_self, Option.isNone_some, Option.isSome_some, Option.isNone_none, Option.isSome_none, okO_chI, okA_chI, okL_chI, aLen_chI, hR_chI, ↓reduceIte, not_true_eq_false, not_false_eq_true, eq_self, c10, Nat.zero_add, nI_add, litA, litB, litM, nI_mul, nI_leI, nI_ltI, nI_eq, litLe, litLe2, litLt, litLt2, litEq, litEq2, in_nI, lit_in, nI_clamp, lit_cl, if_pos, if_neg, WMd w, c45, bI1, X95_22, X95_25, ↓WMb w, t1, X95_31, e2, X95_33, X95_37]
        exact e3
      · obtain ⟨m2, e4, v2, b1, b2⟩ := putM w
        refine ⟨k, m2, ?_, f, v2, b1, b2⟩
        rw [if_neg ht, X95_18]
        simp (disch := omega) only [↓cd_d, ↓irem_eq_mod, ↓ob_setI, ↓ob_chI, ↓ob_some, bI_some, bV_some, bR_some, bL_some, ob_some, cd_t, cd_f, okO_setI, okA_setI, okL_setI, aLen_setI, hR_setI, hI_setI, Bool.true_and, Bool.and_true, Bool.and_self, Option.isNone_some, Option.isSome_some, Option.isNone_none, Option.isSome_none, okO_chI, okA_chI, okL_chI, aLen_chI, hR_chI, ↓reduceIte, not_true_eq_false, not_false_eq_true, eq_self, c10, Nat.zero_add, nI_add, litA, litB, litM, nI_mul, nI_leI, nI_ltI, nI_eq, litLe, litLe2, litLt, litLt2, litEq, litEq2, in_nI, lit_in, nI_clamp, lit_cl, if_pos, if_neg, WMd w, c45, bI1, X95_22, X95_25, ↓WMb w, t1, X95_38, X95_44, X95_46, e4, X95_51, X95_55]
    | false =>
      obtain ⟨m2, e4, v2, b1, b2⟩ := putM w
      refine ⟨k, m2, ?_, f, v2, b1, b2⟩
      rw [hrn] at c45
      rw [if_neg (by simp), X95_18]
      simp (disch := omega) only [↓cd_d, ↓irem_eq_mod, ↓ob_setI, ↓ob_chI, ↓ob_some, bI_some, bV_some, bR_some, bL_some, ob_some, cd_t, cd_f, okO_setI, okA_setI, okL_setI, aLen_setI, hR_setI, hI_setI, Bool.true_and, Bool.and_true, Bool.and_self, Option.isNone_some, Option.isSome_some, Option.isNone_none, Option.isSome_none, okO_chI, okA_chI, okL_chI, aLen_chI, hR_chI, ↓reduceIte, not_true_eq_false, not_false_eq_true, eq_self, c10, Nat.zero_add, nI_add, litA, litB, litM, nI_mul, nI_leI, nI_ltI, nI_eq, litLe, litLe2, litLt, litLt2, litEq, litEq2, in_nI, lit_in, nI_clamp, lit_cl, if_pos, if_neg, WMd w, c45, bI1, X95_38, X95_42, X95_46, ↓WMb w, e4, X95_51, X95_53, Bool.false_eq_true]
theorem P10 (x y : Int32) : Pr Rel 10 95 [rz_i x, rz_i y] := by
  intro h r
  obtain ⟨rb, dr, jd, w, r1, r2, r3, r4, r5⟩ := id r
  have hr : rb = 82 ∨ rb = 96 := by have := lw_rb w; omega
  have hL : isL 3 := Or.inl rfl
  have hL5 : isL 55 := Or.inr (Or.inr rfl)
  obtain ⟨D, tk, z, O, C, M⟩ := mkL hL r1 r2
  rcases tlS O C M x with ⟨k, hk, rfl, hF⟩ | nx
  · have c181 := C181 w hL hk (O.1 k hk) (C.1 k hk) hF
    have c39 := M39 w hk (O.1 k hk) (M.1 k hk)
    rw [decide_eq_true hF] at c39
    obtain ⟨-, hd3⟩ := WLk w hL hk
    have c143 := C143 w hd3 (O.1 k hk) (C.1 k hk)
    rw [show rnT (D k).1 (D k).2.2.1 (D k).2.2.2.2.2.1 = rnS D k from rfl] at c143
    by_cases hy : 1 ≤ y ∧ y ≤ 240
    · have h1 := Int32.not_lt.mpr hy.1
      obtain ⟨n, hn, rfl⟩ := nI_of2 (x := y) (M := 240) (n := 240) rfl (fun q => h1 (Int32.lt_trans q (by decide))) hy.2
      have ms : ∀ k1 jd1, Wf rb dr jd1 k1 → Lf 55 h k1 → ∃ m2, cW 100 95 [rz_r (some 109), rz_i (nI k), rz_i (nI n)] k1 = some (rz_i (dnM h k n 0 (D, tk, z)), m2) ∧ Rel m2 := fun k1 jd1 w1 f01 => by
        obtain ⟨m0, e2, v0, a1, a2⟩ := tryM w1
        have M1 : LM k1 D tk z := M.to (fun i => f01 110 i (by omega) (by omega) (by omega))
        have M0 : LM m0 D tk z := M1.to (fun i => a2 110 i (by omega))
        have l0 : Mlw h m0 := ⟨fun b i h1 h2 => (a2 b i (by omega)).trans ((Mlw.lf hL5 f01).1 b i h1 h2), (a2 109 13 (by omega)).trans (Mlw.lf hL5 f01).2⟩
        have c39b := M39 w1 hk (O.1 k hk) (M1.1 k hk)
        rw [decide_eq_true hF] at c39b
        obtain ⟨m1, m2, e3, y1, y2, y3, y4⟩ := M95l r5 v0 l0 hk hn n 0 (D, tk, z) m0 none (by omega) O rfl M0 (nI_all _) (Mg.refl m0)
        refine ⟨m2, ?_, askRel w ⟨r3, r4, r5⟩ O C M f01 a1 a2 y1 y2 y3 y4⟩
        rw [X95]
        simp only [bI_some, bV_some, bR_some, bL_some, ob_some, cd_t, cd_f, cd_d, okO_setI, okA_setI, okL_setI, aLen_setI, hR_setI, hI_setI, Bool.true_and, Bool.and_true, Bool.and_self, Option.isNone_some, Option.isSome_some, Option.isNone_none, Option.isSome_none, okO_chI, okA_chI, okL_chI, aLen_chI, hR_chI, ↓reduceIte, not_true_eq_false, not_false_eq_true, eq_self, c10, WMd w1, c39b, bI1, X95_4, S33, if_pos hy, X95_11, ↓WMb w1, e2, X95_16]
        exact e3
      cases hrn : rnS D k with
      | false =>
        rw [hrn] at c143
        obtain ⟨m2, e, rel⟩ := ms h jd w (Lf.refl 55 h)
        have hv : dnM h k n 0 (D, tk, z) = nI 0 := by
          cases n with
          | zero => rw [dnM, if_neg (by rw [hrn]; simp)]
          | succ n => rw [dnM, if_neg (by rw [hrn]; simp)]
        rw [hv] at e
        refine ⟨nI 0, h, m2, ?_, e, (WMd w).1, rel⟩
        rw [show DD = 99 + 1 from rfl, E10]
        simp only [bI_some, bV_some, bR_some, bL_some, ob_some, cd_t, cd_f, cd_d, okO_setI, okA_setI, okL_setI, aLen_setI, hR_setI, hI_setI, Bool.true_and, Bool.and_true, Bool.and_self, Option.isNone_some, Option.isSome_some, Option.isNone_none, Option.isSome_none, okO_chI, okA_chI, okL_chI, aLen_chI, hR_chI, ↓reduceIte, not_true_eq_false, not_false_eq_true, eq_self, c10, ↓WCb w, WRt w, c181, if_neg h1, if_pos hy.2, WD w hd3, c143, bI1, Bool.false_eq_true]
        rfl
      | true =>
        rw [hrn] at c143
        obtain ⟨k0, e0, w0, C0, f0⟩ := try55 w r1 O C
        have c181b := C181 w0 hL5 hk (O.1 k hk) (C0.1 k hk) hF
        obtain ⟨k1, e1, ⟨jd1, w1⟩, f1⟩ := C10l r5 hr (Ecl.self h rb) hk hn n 1 (D, tk, z) k0 (some (rz_i (nI k))) (some (rz_r (some (3 + 2 + 3 * k)))) (by omega) O hF ⟨jd, w0⟩ C0 f0
        obtain ⟨m2, e, rel⟩ := ms k1 jd1 w1 f1
        rw [dn_eq h k n 0 (D, tk, z) hrn] at e1
        refine ⟨dnM h k n 0 (D, tk, z), k1, m2, ?_, e, (WMd w1).1, rel⟩
        rw [show DD = 99 + 1 from rfl, E10]
        generalize dnM h k n 0 (D, tk, z) = V at e1 ⊢
        simp only [bI_some, bV_some, bR_some, bL_some, ob_some, cd_t, cd_f, cd_d, okO_setI, okA_setI, okL_setI, aLen_setI, hR_setI, hI_setI, Bool.true_and, Bool.and_true, Bool.and_self, Option.isNone_some, Option.isSome_some, Option.isNone_none, Option.isSome_none, okO_chI, okA_chI, okL_chI, aLen_chI, hR_chI, ↓reduceIte, not_true_eq_false, not_false_eq_true, eq_self, c10, ↓WCb w, ↓WCb w0, WRt w, WRt w0, c181, if_neg h1, if_pos hy.2, WD w hd3, c143, bI1, e0, c181b]
        exact e1
    · refine ⟨-1, h, h, ?_, ?_, (WMd w).1, r⟩
      · rw [show DD = 99 + 1 from rfl, E10]
        by_cases h1 : y < 1
        · simp only [bI_some, bV_some, bR_some, bL_some, ob_some, cd_t, cd_f, cd_d, okO_setI, okA_setI, okL_setI, aLen_setI, hR_setI, hI_setI, Bool.true_and, Bool.and_true, Bool.and_self, Option.isNone_some, Option.isSome_some, Option.isNone_none, Option.isSome_none, okO_chI, okA_chI, okL_chI, aLen_chI, hR_chI, ↓reduceIte, not_true_eq_false, not_false_eq_true, eq_self, c10, ↓WCb w, WRt w, c181, if_pos h1]
        · have h2 : ¬ y ≤ 240 := fun e => hy ⟨Int32.not_lt.mp h1, e⟩
          simp only [bI_some, bV_some, bR_some, bL_some, ob_some, cd_t, cd_f, cd_d, okO_setI, okA_setI, okL_setI, aLen_setI, hR_setI, hI_setI, Bool.true_and, Bool.and_true, Bool.and_self, Option.isNone_some, Option.isSome_some, Option.isNone_none, Option.isSome_none, okO_chI, okA_chI, okL_chI, aLen_chI, hR_chI, ↓reduceIte, not_true_eq_false, not_false_eq_true, eq_self, c10, ↓WCb w, WRt w, c181, if_neg h1, if_neg h2]
      · rw [show DD = 99 + 1 from rfl, X95]
        simp only [bI_some, bV_some, bR_some, bL_some, ob_some, cd_t, cd_f, cd_d, okO_setI, okA_setI, okL_setI, aLen_setI, hR_setI, hI_setI, Bool.true_and, Bool.and_true, Bool.and_self, Option.isNone_some, Option.isSome_some, Option.isNone_none, Option.isSome_none, okO_chI, okA_chI, okL_chI, aLen_chI, hR_chI, ↓reduceIte, not_true_eq_false, not_false_eq_true, eq_self, c10, WMd w, c39, bI1, X95_4, S33, if_neg hy, X95_9]
  · refine ⟨-1, h, h, ?_, ?_, (WMd w).1, r⟩
    · rw [show DD = 99 + 1 from rfl, E10]
      simp only [bI_some, bV_some, bR_some, bL_some, ob_some, cd_t, cd_f, cd_d, okO_setI, okA_setI, okL_setI, aLen_setI, hR_setI, hI_setI, Bool.true_and, Bool.and_true, Bool.and_self, Option.isNone_some, Option.isSome_some, Option.isNone_none, Option.isSome_none, okO_chI, okA_chI, okL_chI, aLen_chI, hR_chI, ↓reduceIte, not_true_eq_false, not_false_eq_true, eq_self, c10, WRt w, N181 w nx]
    · rw [show DD = 99 + 1 from rfl, X95]
      simp only [bI_some, bV_some, bR_some, bL_some, ob_some, cd_t, cd_f, cd_d, okO_setI, okA_setI, okL_setI, aLen_setI, hR_setI, hI_setI, Bool.true_and, Bool.and_true, Bool.and_self, Option.isNone_some, Option.isSome_some, Option.isNone_none, Option.isSome_none, okO_chI, okA_chI, okL_chI, aLen_chI, hR_chI, ↓reduceIte, not_true_eq_false, not_false_eq_true, eq_self, c10, WMd w, N39 w nx, X95_9]
theorem C11l {rb dr : Nat} {h0 hs : rz_H} (R : LwRel h0 rb) (hr : rb = 82 ∨ rb = 96) (E : Ecl h0 rb hs) {kk n : Nat} (hk : kk < 8) (hn : n ≤ 240) (y : Int32) : ∀ c i Q k m j1, i + c = n → QO Q → 0 < (Q.1 kk).1 → (∃ jd, Wf rb dr jd k) → QC k 55 Q → Lf 55 hs k → ∃ k', rW 99 11 (36, (0, 0), [some (rz_r (some 0)), j1, some (rz_i y), some (rz_i (nI n)), some (rz_r (some (55 + 2 + 3 * kk))), some (rz_i (nI m)), some (rz_i (nI i))], [], k) = some (rz_i (nI (ofn h0 kk y c Q m)), k') ∧ (∃ jd, Wf rb dr jd k') ∧ Lf 55 hs k' := by
  have hL5 : isL 55 := Or.inr (Or.inr rfl)
  intro c
  induction c with
  | zero =>
    intro i Q k m j1 hi O hF ⟨jd, w⟩ C f
    refine ⟨k, ?_, ⟨jd, w⟩, f⟩
    rw [E11_36]
    simp (disch := omega) only [↓cd_d, ↓irem_eq_mod, ↓ob_setI, ↓ob_chI, ↓ob_some, bI_some, bV_some, bR_some, bL_some, ob_some, cd_t, cd_f, okO_setI, okA_setI, okL_setI, aLen_setI, hR_setI, hI_setI, Bool.true_and, Bool.and_true, Bool.and_self, Option.isNone_some, Option.isSome_some, Option.isNone_none, Option.isSome_none, okO_chI, okA_chI, okL_chI, aLen_chI, hR_chI, ↓reduceIte, not_true_eq_false, not_false_eq_true, eq_self, c10, Nat.zero_add, nI_add, litA, litB, litM, nI_mul, nI_leI, nI_ltI, nI_eq, litLe, litLe2, litLt, litLt2, litEq, litEq2, in_nI, lit_in, nI_clamp, lit_cl, if_pos, if_neg]
    rfl
  | succ c ih =>
    intro i Q k m j1 hi O hF ⟨jd, w⟩ C f
    have s178 := S178 w hL5
    have t1 : hI k 55 1 = nI Q.2.1 := C.2.1
    have t2 := O.2.1
    rw [t1] at s178
    rw [ofn]
    by_cases ht : Q.2.1 < 9999
    · obtain ⟨g, k2, e2, ⟨jd2, w2⟩, C2, f2⟩ := C187q w R hL5 (E.lf hL5 hr f) O C 91
      rw [if_pos ht] at C2 ⊢
      have O2 := st1_ok h0 O ht
      have F2 : 0 < ((st1 h0 Q).1 kk).1 := by rw [st1_F]; exact hF
      generalize st1 h0 Q = Q2 at C2 O2 F2 ⊢
      obtain ⟨-, hd⟩ := WLk w2 hL5 hk
      have c146 := C146p w2 hd (O2.1 kk hk) (C2.1 kk hk) F2
      by_cases hv : nI (shT (Q2.1 kk)) = y
      · obtain ⟨k3, e3, w3, f3⟩ := ih (i + 1) Q2 k2 (m + 1) none (by omega) O2 F2 ⟨jd2, w2⟩ C2 (f.trans f2)
        refine ⟨k3, ?_, w3, f3⟩
        rw [if_pos hv, E11_36]
        simp (disch := omega) only [↓cd_d, ↓irem_eq_mod, ↓ob_setI, ↓ob_chI, ↓ob_some, bI_some, bV_some, bR_some, bL_some, ob_some, cd_t, cd_f, okO_setI, okA_setI, okL_setI, aLen_setI, hR_setI, hI_setI, Bool.true_and, Bool.and_true, Bool.and_self, Option.isNone_some, Option.isSome_some, Option.isNone_none, Option.isSome_none, okO_chI, okA_chI, okL_chI, aLen_chI, hR_chI, ↓reduceIte, not_true_eq_false, not_false_eq_true, eq_self, c10, Nat.zero_add, nI_add, litA, litB, litM, nI_mul, nI_leI, nI_ltI, nI_eq, litLe, litLe2, litLt, litLt2, litEq, litEq2, in_nI, lit_in, nI_clamp, lit_cl, if_pos, if_neg, ↓WCb w, WRt w, s178, e2, WD w2 hd, c146, hv]
        exact e3
      · obtain ⟨k3, e3, w3, f3⟩ := ih (i + 1) Q2 k2 m none (by omega) O2 F2 ⟨jd2, w2⟩ C2 (f.trans f2)
        refine ⟨k3, ?_, w3, f3⟩
        rw [if_neg hv, E11_36]
        simp (disch := omega) only [↓cd_d, ↓irem_eq_mod, ↓ob_setI, ↓ob_chI, ↓ob_some, bI_some, bV_some, bR_some, bL_some, ob_some, cd_t, cd_f, okO_setI, okA_setI, okL_setI, aLen_setI, hR_setI, hI_setI, Bool.true_and, Bool.and_true, Bool.and_self, Option.isNone_some, Option.isSome_some, Option.isNone_none, Option.isSome_none, okO_chI, okA_chI, okL_chI, aLen_chI, hR_chI, ↓reduceIte, not_true_eq_false, not_false_eq_true, eq_self, c10, Nat.zero_add, nI_add, litA, litB, litM, nI_mul, nI_leI, nI_ltI, nI_eq, litLe, litLe2, litLt, litLt2, litEq, litEq2, in_nI, lit_in, nI_clamp, lit_cl, if_pos, if_neg, ↓WCb w, WRt w, s178, e2, WD w2 hd, c146, hv]
        exact e3
    · refine ⟨k, ?_, ⟨jd, w⟩, f⟩
      rw [if_neg ht, E11_36]
      simp (disch := omega) only [↓cd_d, ↓irem_eq_mod, ↓ob_setI, ↓ob_chI, ↓ob_some, bI_some, bV_some, bR_some, bL_some, ob_some, cd_t, cd_f, okO_setI, okA_setI, okL_setI, aLen_setI, hR_setI, hI_setI, Bool.true_and, Bool.and_true, Bool.and_self, Option.isNone_some, Option.isSome_some, Option.isNone_none, Option.isSome_none, okO_chI, okA_chI, okL_chI, aLen_chI, hR_chI, ↓reduceIte, not_true_eq_false, not_false_eq_true, eq_self, c10, Nat.zero_add, nI_add, litA, litB, litM, nI_mul, nI_leI, nI_ltI, nI_eq, litLe, litLe2, litLt, litLt2, litEq, litEq2, in_nI, lit_in, nI_clamp, lit_cl, if_pos, if_neg, ↓WCb w, WRt w, s178]
theorem M96l {rb dr : Nat} {jd : Option Nat} {h0 hs : rz_H} (R : LwRel h0 rb) (w0 : Wf rb dr jd hs) (l : Mlw h0 hs) {kk n : Nat} (hk : kk < 8) (hn : n ≤ 240) (y : Int32) : ∀ c i Q k m, i + c = n → QO Q → 0 < (Q.1 kk).1 → k.2 = hs.2 → QM k Q → (∃ gn, hI k 109 36 = nI gn) → Mg hs k → ∃ m1 m2, rW 99 96 (25, (0, 0), [some (rz_r (some 109)), some (rz_i (nI kk)), some (rz_i y), some (rz_i (nI n)), some (rz_i (nI m)), some (rz_i (nI i))], [], k) = some (rz_i (nI (ofn h0 kk y c Q m)), m2) ∧ Mg hs m1 ∧ Wf rb dr jd m2 ∧ (∀ i, i < 306 → hI m2 110 i = hI m1 111 i) ∧ ∀ b i, b ≠ 110 → hI m2 b i = hI m1 b i := by
  intro c
  induction c with
  | zero =>
    intro i Q k m hi O hF z M g f
    have w : Wf rb dr jd k := w0.e z
    obtain ⟨m2, e4, v2, b1, b2⟩ := putM w
    refine ⟨k, m2, ?_, f, v2, b1, b2⟩
    rw [E96_25]
    simp (disch := omega) only [↓cd_d, ↓irem_eq_mod, ↓ob_setI, ↓ob_chI, ↓ob_some, bI_some, bV_some, bR_some, bL_some, ob_some, cd_t, cd_f, okO_setI, okA_setI, okL_setI, aLen_setI, hR_setI, hI_setI, Bool.true_and, Bool.and_true, Bool.and_self, Option.isNone_some, Option.isSome_some, Option.isNone_none, Option.isSome_none, okO_chI, okA_chI, okL_chI, aLen_chI, hR_chI, ↓reduceIte, not_true_eq_false, not_false_eq_true, eq_self, c10, Nat.zero_add, nI_add, litA, litB, litM, nI_mul, nI_leI, nI_ltI, nI_eq, litLe, litLe2, litLt, litLt2, litEq, litEq2, in_nI, lit_in, nI_clamp, lit_cl, if_pos, if_neg, WMd w, e4]
    rfl
  | succ c ih =>
    intro i Q k m hi O hF z M ⟨gn, hg⟩ f
    have w : Wf rb dr jd k := w0.e z
    have t1 := M.2.1
    have t2 := O.2.1
    rw [ofn]
    by_cases ht : Q.2.1 < 9999
    · obtain ⟨k2, e2, z2, M2, g2, f2⟩ := M86q w R (l.mg f) O ht M hg 93
      have w2 : Wf rb dr jd k2 := w.e z2
      rw [if_pos ht]
      have O2 := st1_ok h0 O ht
      have F2 : 0 < ((st1 h0 Q).1 kk).1 := by rw [st1_F]; exact hF
      generalize st1 h0 Q = Q2 at M2 O2 F2 ⊢
      obtain ⟨q1, q2⟩ := M43p w2 hk (O2.1 kk hk) (M2.1 kk hk) F2
      by_cases hv : nI (shT (Q2.1 kk)) = y
      · obtain ⟨m1, m2, e3, y1, y2, y3, y4⟩ := ih (i + 1) Q2 k2 (m + 1) (by omega) O2 F2 (z2.trans z) M2 g2 (f.trans f2)
        refine ⟨m1, m2, ?_, y1, y2, y3, y4⟩
        rw [if_pos hv, E96_25]
        simp (disch := omega) only [↓cd_d, ↓irem_eq_mod, ↓ob_setI, ↓ob_chI, ↓ob_some, bI_some, bV_some, bR_some, bL_some, ob_some, cd_t, cd_f, okO_setI, okA_setI, okL_setI, aLen_setI, hR_setI, hI_setI, Bool.true_and, Bool.and_true, Bool.and_self, Option.isNone_some, Option.isSome_some, Option.isNone_none, Option.isSome_none, okO_chI, okA_chI, okL_chI, aLen_chI, hR_chI, ↓reduceIte, not_true_eq_false, not_false_eq_true, eq_self, c10, Nat.zero_add, nI_add, litA, litB, litM, nI_mul, nI_leI, nI_ltI, nI_eq, litLe, litLe2, litLt, litLt2, litEq, litEq2, in_nI, lit_in, nI_clamp, lit_cl, if_pos, if_neg, WMd w, ↓WMb w, t1, e2, WMd w2, ↓WMb w2, q1, q2, hv]
        exact e3
      · obtain ⟨m1, m2, e3, y1, y2, y3, y4⟩ := ih (i + 1) Q2 k2 m (by omega) O2 F2 (z2.trans z) M2 g2 (f.trans f2)
        refine ⟨m1, m2, ?_, y1, y2, y3, y4⟩
        rw [if_neg hv, E96_25]
        simp (disch := omega) only [↓cd_d, ↓irem_eq_mod, ↓ob_setI, ↓ob_chI, ↓ob_some, bI_some, bV_some, bR_some, bL_some, ob_some, cd_t, cd_f, okO_setI, okA_setI, okL_setI, aLen_setI, hR_setI, hI_setI, Bool.true_and, Bool.and_true, Bool.and_self, Option.isNone_some, Option.isSome_some, Option.isNone_none, Option.isSome_none, okO_chI, okA_chI, okL_chI, aLen_chI, hR_chI, ↓reduceIte, not_true_eq_false, not_false_eq_true, eq_self, c10, Nat.zero_add, nI_add, litA, litB, litM, nI_mul, nI_leI, nI_ltI, nI_eq, litLe, litLe2, litLt, litLt2, litEq, litEq2, in_nI, lit_in, nI_clamp, lit_cl, if_pos, if_neg, WMd w, ↓WMb w, t1, e2, WMd w2, ↓WMb w2, q1, q2, hv]
        exact e3
    · obtain ⟨m2, e4, v2, b1, b2⟩ := putM w
      refine ⟨k, m2, ?_, f, v2, b1, b2⟩
      rw [if_neg ht, E96_25]
      simp (disch := omega) only [↓cd_d, ↓irem_eq_mod, ↓ob_setI, ↓ob_chI, ↓ob_some, bI_some, bV_some, bR_some, bL_some, ob_some, cd_t, cd_f, okO_setI, okA_setI, okL_setI, aLen_setI, hR_setI, hI_setI, Bool.true_and, Bool.and_true, Bool.and_self, Option.isNone_some, Option.isSome_some, Option.isNone_none, Option.isSome_none, okO_chI, okA_chI, okL_chI, aLen_chI, hR_chI, ↓reduceIte, not_true_eq_false, not_false_eq_true, eq_self, c10, Nat.zero_add, nI_add, litA, litB, litM, nI_mul, nI_leI, nI_ltI, nI_eq, litLe, litLe2, litLt, litLt2, litEq, litEq2, in_nI, lit_in, nI_clamp, lit_cl, if_pos, if_neg, WMd w, ↓WMb w, t1, e4]
theorem P11 (x y z : Int32) : Pr Rel 11 96 [rz_i x, rz_i y, rz_i z] := by
  intro h r
  obtain ⟨rb, dr, jd, w, r1, r2, r3, r4, r5⟩ := id r
  have hr : rb = 82 ∨ rb = 96 := by have := lw_rb w; omega
  have hL : isL 3 := Or.inl rfl
  have hL5 : isL 55 := Or.inr (Or.inr rfl)
  obtain ⟨D, tk, zz, O, C, M⟩ := mkL hL r1 r2
  rcases tlS O C M x with ⟨k, hk, rfl, hF⟩ | nx
  · have c181 := C181 w hL hk (O.1 k hk) (C.1 k hk) hF
    have c39 := M39 w hk (O.1 k hk) (M.1 k hk)
    rw [decide_eq_true hF] at c39
    by_cases hy : 0 ≤ y ∧ y ≤ 16
    · have y1 := Int32.not_lt.mpr hy.1
      have y2 := Int32.not_lt.mpr hy.2
      by_cases hz : 1 ≤ z ∧ z ≤ 240
      · have h1 := Int32.not_lt.mpr hz.1
        obtain ⟨n, hn, rfl⟩ := nI_of2 (x := z) (M := 240) (n := 240) rfl (fun q => h1 (Int32.lt_trans q (by decide))) hz.2
        obtain ⟨k0, e0, w0, C0, f0⟩ := try55 w r1 O C
        have c181b := C181 w0 hL5 hk (O.1 k hk) (C0.1 k hk) hF
        obtain ⟨k1, e1, ⟨jd1, w1⟩, f01⟩ := C11l r5 hr (Ecl.self h rb) hk hn y n 0 (D, tk, zz) k0 0 (some (rz_i (nI k))) (by omega) O hF ⟨jd, w0⟩ C0 f0
        obtain ⟨m0, e2, v0, a1, a2⟩ := tryM w1
        have M1 : LM k1 D tk zz := M.to (fun i => f01 110 i (by omega) (by omega) (by omega))
        have M0 : LM m0 D tk zz := M1.to (fun i => a2 110 i (by omega))
        have l0 : Mlw h m0 := ⟨fun b i h1 h2 => (a2 b i (by omega)).trans ((Mlw.lf hL5 f01).1 b i h1 h2), (a2 109 13 (by omega)).trans (Mlw.lf hL5 f01).2⟩
        have c39b := M39 w1 hk (O.1 k hk) (M1.1 k hk)
        rw [decide_eq_true hF] at c39b
        obtain ⟨m1, m2, e3, q1, q2, q3, q4⟩ := M96l r5 v0 l0 hk hn y n 0 (D, tk, zz) m0 0 (by omega) O hF rfl M0 (nI_all _) (Mg.refl m0)
        refine ⟨nI (ofn h k y n (D, tk, zz) 0), k1, m2, ?_, ?_, (WMd w1).1, askRel w ⟨r3, r4, r5⟩ O C M f01 a1 a2 q1 q2 q3 q4⟩
        · rw [show DD = 99 + 1 from rfl, E11]
          generalize ofn h k y n (D, tk, zz) 0 = V at e1 ⊢
          simp only [bI_some, bV_some, bR_some, bL_some, ob_some, cd_t, cd_f, cd_d, okO_setI, okA_setI, okL_setI, aLen_setI, hR_setI, hI_setI, Bool.true_and, Bool.and_true, Bool.and_self, Option.isNone_some, Option.isSome_some, Option.isNone_none, Option.isSome_none, okO_chI, okA_chI, okL_chI, aLen_chI, hR_chI, ↓reduceIte, not_true_eq_false, not_false_eq_true, eq_self, c10, ↓WCb w, ↓WCb w0, WRt w, WRt w0, c181, if_neg y1, if_neg y2, if_neg h1, if_pos hz.2, e0, c181b]
          exact e1
        · rw [show DD = 99 + 1 from rfl, E96]
          generalize ofn h k y n (D, tk, zz) 0 = V at e3 ⊢
          simp only [bI_some, bV_some, bR_some, bL_some, ob_some, cd_t, cd_f, cd_d, okO_setI, okA_setI, okL_setI, aLen_setI, hR_setI, hI_setI, Bool.true_and, Bool.and_true, Bool.and_self, Option.isNone_some, Option.isSome_some, Option.isNone_none, Option.isSome_none, okO_chI, okA_chI, okL_chI, aLen_chI, hR_chI, ↓reduceIte, not_true_eq_false, not_false_eq_true, eq_self, c10, WMd w1, c39b, bI1, S33, if_pos hy, if_pos hz, ↓WMb w1, e2]
          exact e3
      · refine ⟨-1, h, h, ?_, ?_, (WMd w).1, r⟩
        · rw [show DD = 99 + 1 from rfl, E11]
          by_cases h1 : z < 1
          · simp only [bI_some, bV_some, bR_some, bL_some, ob_some, cd_t, cd_f, cd_d, okO_setI, okA_setI, okL_setI, aLen_setI, hR_setI, hI_setI, Bool.true_and, Bool.and_true, Bool.and_self, Option.isNone_some, Option.isSome_some, Option.isNone_none, Option.isSome_none, okO_chI, okA_chI, okL_chI, aLen_chI, hR_chI, ↓reduceIte, not_true_eq_false, not_false_eq_true, eq_self, c10, ↓WCb w, WRt w, c181, if_neg y1, if_neg y2, if_pos h1]
          · have h2 : ¬ z ≤ 240 := fun e => hz ⟨Int32.not_lt.mp h1, e⟩
            simp only [bI_some, bV_some, bR_some, bL_some, ob_some, cd_t, cd_f, cd_d, okO_setI, okA_setI, okL_setI, aLen_setI, hR_setI, hI_setI, Bool.true_and, Bool.and_true, Bool.and_self, Option.isNone_some, Option.isSome_some, Option.isNone_none, Option.isSome_none, okO_chI, okA_chI, okL_chI, aLen_chI, hR_chI, ↓reduceIte, not_true_eq_false, not_false_eq_true, eq_self, c10, ↓WCb w, WRt w, c181, if_neg y1, if_neg y2, if_neg h1, if_neg h2]
        · rw [show DD = 99 + 1 from rfl, E96]
          simp only [bI_some, bV_some, bR_some, bL_some, ob_some, cd_t, cd_f, cd_d, okO_setI, okA_setI, okL_setI, aLen_setI, hR_setI, hI_setI, Bool.true_and, Bool.and_true, Bool.and_self, Option.isNone_some, Option.isSome_some, Option.isNone_none, Option.isSome_none, okO_chI, okA_chI, okL_chI, aLen_chI, hR_chI, ↓reduceIte, not_true_eq_false, not_false_eq_true, eq_self, c10, WMd w, c39, bI1, S33, if_pos hy, if_neg hz]
    · refine ⟨-1, h, h, ?_, ?_, (WMd w).1, r⟩
      · rw [show DD = 99 + 1 from rfl, E11]
        by_cases y1 : y < 0
        · simp only [bI_some, bV_some, bR_some, bL_some, ob_some, cd_t, cd_f, cd_d, okO_setI, okA_setI, okL_setI, aLen_setI, hR_setI, hI_setI, Bool.true_and, Bool.and_true, Bool.and_self, Option.isNone_some, Option.isSome_some, Option.isNone_none, Option.isSome_none, okO_chI, okA_chI, okL_chI, aLen_chI, hR_chI, ↓reduceIte, not_true_eq_false, not_false_eq_true, eq_self, c10, ↓WCb w, WRt w, c181, if_pos y1]
        · have y2 : (16 : Int32) < y := Int32.not_le.mp fun e => hy ⟨Int32.not_lt.mp y1, e⟩
          simp only [bI_some, bV_some, bR_some, bL_some, ob_some, cd_t, cd_f, cd_d, okO_setI, okA_setI, okL_setI, aLen_setI, hR_setI, hI_setI, Bool.true_and, Bool.and_true, Bool.and_self, Option.isNone_some, Option.isSome_some, Option.isNone_none, Option.isSome_none, okO_chI, okA_chI, okL_chI, aLen_chI, hR_chI, ↓reduceIte, not_true_eq_false, not_false_eq_true, eq_self, c10, ↓WCb w, WRt w, c181, if_neg y1, if_pos y2]
      · rw [show DD = 99 + 1 from rfl, E96]
        simp only [bI_some, bV_some, bR_some, bL_some, ob_some, cd_t, cd_f, cd_d, okO_setI, okA_setI, okL_setI, aLen_setI, hR_setI, hI_setI, Bool.true_and, Bool.and_true, Bool.and_self, Option.isNone_some, Option.isSome_some, Option.isNone_none, Option.isSome_none, okO_chI, okA_chI, okL_chI, aLen_chI, hR_chI, ↓reduceIte, not_true_eq_false, not_false_eq_true, eq_self, c10, WMd w, c39, bI1, S33, if_neg hy]
  · refine ⟨-1, h, h, ?_, ?_, (WMd w).1, r⟩
    · rw [show DD = 99 + 1 from rfl, E11]
      simp only [bI_some, bV_some, bR_some, bL_some, ob_some, cd_t, cd_f, cd_d, okO_setI, okA_setI, okL_setI, aLen_setI, hR_setI, hI_setI, Bool.true_and, Bool.and_true, Bool.and_self, Option.isNone_some, Option.isSome_some, Option.isNone_none, Option.isSome_none, okO_chI, okA_chI, okL_chI, aLen_chI, hR_chI, ↓reduceIte, not_true_eq_false, not_false_eq_true, eq_self, c10, WRt w, N181 w nx]
    · rw [show DD = 99 + 1 from rfl, E96]
      simp only [bI_some, bV_some, bR_some, bL_some, ob_some, cd_t, cd_f, cd_d, okO_setI, okA_setI, okL_setI, aLen_setI, hR_setI, hI_setI, Bool.true_and, Bool.and_true, Bool.and_self, Option.isNone_some, Option.isSome_some, Option.isNone_none, Option.isSome_none, okO_chI, okA_chI, okL_chI, aLen_chI, hR_chI, ↓reduceIte, not_true_eq_false, not_false_eq_true, eq_self, c10, WMd w, N39 w nx]
