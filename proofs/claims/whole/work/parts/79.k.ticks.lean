/-! ticks -/
theorem lp_hs {σ τ ρ : Type} (P : Nat → σ → rz_H → τ → ρ) (f : Nat → σ → σ) (I : Nat → σ → rz_H → Prop) (n : Nat) (hs : ∀ i s k j, i < n → I i s k → ∃ k2 j2, P i s k j = P (i + 1) (f i s) k2 j2 ∧ I (i + 1) (f i s) k2) : ∀ c i s k j, i + c = n → I i s k → ∃ k2 j2, P i s k j = P n (itr f i c s) k2 j2 ∧ I n (itr f i c s) k2
  | 0, i, s, k, j, e, h => by
    have : i = n := by omega
    subst this
    exact ⟨k, j, rfl, h⟩
  | c + 1, i, s, k, j, e, h => by
    obtain ⟨k2, j2, e2, h2⟩ := hs i s k j (by omega) h
    rw [e2]
    exact lp_hs P f I n hs c (i + 1) (f i s) k2 j2 (by omega) h2
abbrev SS : Type := (Nat → TU) × Nat × Nat
abbrev PS : Type := (Nat → TU) × Nat × Nat × Nat
def tkf (h0 : rz_H) (tk k : Nat) (S : SS) : SS := if rnT (S.1 k).1 (S.1 k).2.2.1 (S.1 k).2.2.2.2.2.1 = true then (fun j => if j = k then trn h0 k tk (lcg S.2.1) (S.1 k) else S.1 j, lcg S.2.1, S.2.2 + (trn h0 k tk (lcg S.2.1) (S.1 k)).2.2.2.2.1) else S
def tks (h0 : rz_H) (tk : Nat) (S : SS) : SS := itr (tkf h0 tk) 0 8 S
def mkP (r : SS) (t : Nat) : PS := (r.1, t, r.2.1, r.2.2)
def tk1 (h0 : rz_H) (S : PS) : PS := mkP (tks h0 S.2.1 (S.1, S.2.2.1, S.2.2.2)) (S.2.1 + 1)
def pas (h0 : rz_H) : Nat → PS → PS
  | 0, S => S
  | n + 1, S => if S.2.1 < 9999 then pas h0 n (tk1 h0 S) else S
def SO (S : SS) : Prop := (∀ k, k < 8 → tO (S.1 k)) ∧ S.2.1 ≤ 65535
theorem rnT_F {F t q : Nat} (h : rnT F t q = true) : 0 < F := by
  unfold rnT at h
  exact of_decide_eq_true ((Bool.and_eq_true _ _).mp h).1
theorem tkf_ok (h0 : rz_H) (tk : Nat) {k : Nat} (hk : k < 8) {S : SS} (O : SO S) : SO (tkf h0 tk k S) := by
  unfold tkf
  split
  · rename_i c
    refine ⟨fun j hj => ?_, lcg_le _⟩
    show tO (if j = k then trn h0 k tk (lcg S.2.1) (S.1 k) else S.1 j)
    split
    · exact trT_ok (O.1 k hk) (rnT_F c) (lwV_le _ _ _ _) _ _ _
    · exact O.1 j hj
  · exact O
theorem tks_ok (h0 : rz_H) (tk : Nat) {S : SS} (O : SO S) : SO (tks h0 tk S) := itr_in SO 8 0 S (fun j t _ h2 O => tkf_ok h0 tk (by omega) O) O
def PO (S : PS) : Prop := LO S.1 S.2.1 S.2.2.1
theorem mkP_g (r : SS) (t : Nat) : (mkP r t).2.2.2 = r.2.2 := rfl
theorem tk1_g (h0 : rz_H) (S : PS) : (tk1 h0 S).2.2.2 = (tks h0 S.2.1 (S.1, S.2.2.1, S.2.2.2)).2.2 := by rw [tk1, mkP_g]
theorem mkP_ok {r : SS} {t : Nat} (O : SO r) (h : t ≤ 9999) : PO (mkP r t) := ⟨O.1, h, O.2⟩
theorem tk1_ok (h0 : rz_H) {S : PS} (O : PO S) (h : S.2.1 < 9999) : PO (tk1 h0 S) := mkP_ok (tks_ok h0 S.2.1 (S := (S.1, S.2.2.1, S.2.2.2)) ⟨O.1, O.2.2⟩) (by omega)
theorem mkP_C {k : rz_H} {A : Nat} {r : SS} {t0 : Nat} (t : Nat) (C : LC k A r.1 t0 r.2.1) : LC (setI k A 1 (nI t)) A (mkP r t).1 (mkP r t).2.1 (mkP r t).2.2.1 := ⟨fun j hj => Dc.to (C.1 j hj) (fun b hb i => by rw [hI_setI, if_neg (by omega)]), by rw [hI_setI, if_pos ⟨rfl, rfl⟩]; rfl, by rw [hI_setI, if_neg (by omega)]; exact C.2.2⟩
theorem mkP_M {k : rz_H} {r : SS} {t0 : Nat} (t : Nat) (O : SO r) (M : LM k r.1 t0 r.2.1) : LM (setI k 110 304 (nI t)) (mkP r t).1 (mkP r t).2.1 (mkP r t).2.2.1 := by
  refine ⟨fun j hj => ?_, by rw [hI_setI, if_pos ⟨rfl, rfl⟩]; rfl, by rw [hI_setI, if_neg (by omega)]; exact M.2.2⟩
  have Oj := O.1 j hj
  have Mj := M.1 j hj
  have hF : (r.1 j).1 ≤ 16 := Oj.1
  obtain ⟨m1, m2, m3, m4, m5, m6, m7⟩ := Mj
  have o : ∀ i, i ≠ 304 → hI (setI k 110 304 (nI t)) 110 i = hI k 110 i := fun i hi => by rw [hI_setI, if_neg (by omega)]
  exact ⟨(o _ (by omega)).trans m1, (o _ (by omega)).trans m2, (o _ (by omega)).trans m3, (o _ (by omega)).trans m4, (o _ (by omega)).trans m5, (o _ (by omega)).trans m6, fun i hi => ⟨(o _ (by have hi : i < (r.1 j).1 := hi; omega)).trans (m7 i hi).1, (o _ (by have hi : i < (r.1 j).1 := hi; omega)).trans (m7 i hi).2⟩⟩
theorem pas_ok (h0 : rz_H) : ∀ n S, PO S → PO (pas h0 n S)
  | 0, _, O => O
  | n + 1, S, O => by
    unfold pas
    split
    · rename_i c
      exact pas_ok h0 n _ (tk1_ok h0 O c)
    · exact O
/-! the class's side -/
def Lf (A : Nat) (h k : rz_H) : Prop := ∀ b i, (b < A ∨ A + 26 ≤ b) → b ≠ 95 → b ≠ 102 → hI k b i = hI h b i
theorem Lf.refl (A : Nat) (h : rz_H) : Lf A h h := fun _ _ _ _ _ => rfl
theorem Lf.trans {A : Nat} {a b c : rz_H} (x : Lf A a b) (y : Lf A b c) : Lf A a c := fun p i h1 h2 h3 => (y p i h1 h2 h3).trans (x p i h1 h2 h3)
theorem Ecl.lf {h0 h k : rz_H} {rb A : Nat} (hA : isL A) (hr : rb = 82 ∨ rb = 96) (E : Ecl h0 rb h) (f : Lf A h k) : Ecl h0 rb k := fun b i h1 h2 => by
  have hA3 : A = 3 ∨ A = 29 ∨ A = 55 := hA
  exact (f b i (by omega) (by omega) (by omega)).trans (E b i h1 h2)
def CI (rb dr A : Nat) (hs : rz_H) (tk : Nat) (S : SS) (k : rz_H) : Prop := (∃ jd, Wf rb dr jd k) ∧ SO S ∧ LC k A S.1 tk S.2.1 ∧ Lf A hs k
theorem C187i {rb dr : Nat} {h0 hs : rz_H} (R : LwRel h0 rb) (hr : rb = 82 ∨ rb = 96) {A : Nat} (hA : isL A) (E : Ecl h0 rb hs) {tk : Nat} (htk : tk < 10000) (n i : Nat) (d : Nat) (S : SS) (k : rz_H) (I : CI rb dr A hs tk S k) : ∃ k', rW (d + 7) 187 (13, (0, 0), [some (rz_r (some A)), some (rz_i (nI n)), some (rz_r (some 95)), some (rz_i (nI S.2.2)), some (rz_i (nI i)), some (rz_i 0)], [], k) = rW (d + 7) 187 (13, (0, 0), [some (rz_r (some A)), some (rz_i (nI n)), some (rz_r (some 95)), some (rz_i (nI (tks h0 tk S).2.2)), some (rz_i (nI i)), some (rz_i (nI 8))], [], k') ∧ CI rb dr A hs tk (tks h0 tk S) k' := by
  have hA3 : A = 3 ∨ A = 29 ∨ A = 55 := hA
  obtain ⟨k', -, e, I'⟩ := lp_hs (τ := Unit) (fun kk (S : SS) k _ => rW (d + 7) 187 (13, (0, 0), [some (rz_r (some A)), some (rz_i (nI n)), some (rz_r (some 95)), some (rz_i (nI S.2.2)), some (rz_i (nI i)), some (rz_i (nI kk))], [], k)) (tkf h0 tk) (fun _ S k => CI rb dr A hs tk S k) 8 (fun kk S k _ hk I => by
    obtain ⟨⟨jd, w⟩, O, C, f⟩ := I
    obtain ⟨k1, hd⟩ := WLk w hA hk
    have c143 := C143 w hd (O.1 kk hk) (C.1 kk hk)
    show ∃ k2 j2, rW (d + 7) 187 (13, (0, 0), [some (rz_r (some A)), some (rz_i (nI n)), some (rz_r (some 95)), some (rz_i (nI S.2.2)), some (rz_i (nI i)), some (rz_i (nI kk))], [], k) = _ ∧ _
    unfold tkf
    cases hrn : rnT (S.1 kk).1 (S.1 kk).2.2.1 (S.1 kk).2.2.2.2.2.1 with
    | false =>
      rw [hrn] at c143
      refine ⟨k, (), ?_, ?_⟩
      · rw [E187_13]
        simp (disch := omega) only [↓cd_d, ↓irem_eq_mod, ↓ob_setI, ↓ob_chI, ↓ob_some, bI_some, bV_some, bR_some, bL_some, ob_some, cd_t, cd_f, okO_setI, okA_setI, okL_setI, aLen_setI, hR_setI, hI_setI, Bool.true_and, Bool.and_true, Bool.and_self, Option.isNone_some, Option.isSome_some, Option.isNone_none, Option.isSome_none, okO_chI, okA_chI, okL_chI, aLen_chI, hR_chI, ↓reduceIte, not_true_eq_false, not_false_eq_true, eq_self, c10, Nat.zero_add, nI_add, litA, litB, litM, nI_mul, nI_leI, nI_ltI, nI_eq, litLe, litLe2, litLt, litLt2, litEq, litEq2, in_nI, lit_in, nI_clamp, lit_cl, if_pos, if_neg, ↓WLb w hA, ↓obR k1, WLd w hA, WD w hd, c143, bI1, Bool.false_eq_true]
      · rw [if_neg (by simp)]; exact ⟨⟨jd, w⟩, O, C, f⟩
    | true =>
      rw [hrn] at c143
      rw [if_pos rfl]
      obtain ⟨k2, e2, w2, C2, x2, f2⟩ := C188 w R (E.lf hA hr f) hA hk (O.1 kk hk) (C.1 kk hk) (rnT_F hrn) C.2.1 htk C.2.2 O.2 d
      refine ⟨k2, (), ?_, ⟨⟨_, w2⟩, ?_, ⟨fun j hj => ?_, ?_, x2⟩, fun b i h1 h2 h3 => (f2 b i (by omega) (by omega) (by omega) (by omega) h2 h3).trans (f b i h1 h2 h3)⟩⟩
      · rw [E187_13]
        simp (disch := omega) only [↓cd_d, ↓irem_eq_mod, ↓ob_setI, ↓ob_chI, ↓ob_some, bI_some, bV_some, bR_some, bL_some, ob_some, cd_t, cd_f, okO_setI, okA_setI, okL_setI, aLen_setI, hR_setI, hI_setI, Bool.true_and, Bool.and_true, Bool.and_self, Option.isNone_some, Option.isSome_some, Option.isNone_none, Option.isSome_none, okO_chI, okA_chI, okL_chI, aLen_chI, hR_chI, ↓reduceIte, not_true_eq_false, not_false_eq_true, eq_self, c10, Nat.zero_add, nI_add, litA, litB, litM, nI_mul, nI_leI, nI_ltI, nI_eq, litLe, litLe2, litLt, litLt2, litEq, litEq2, in_nI, lit_in, nI_clamp, lit_cl, if_pos, if_neg, ↓WLb w hA, ↓obR k1, WLd w hA, WD w hd, c143, bI1, k1, e2]
      · have := tkf_ok h0 tk hk O
        unfold tkf at this
        rw [hrn, if_pos rfl] at this
        exact this
      · show tC k2 (A + 2 + 3 * j) (if j = kk then trn h0 kk tk (lcg S.2.1) (S.1 kk) else S.1 j)
        by_cases c : j = kk
        · subst c; rw [if_pos rfl]; exact C2
        · rw [if_neg c]; exact Dc.to (C.1 j hj) (fun b hb i => f2 b i (by omega) (by omega) (by omega) (by omega) (by omega) (by omega))
      · exact (f2 A 1 (by omega) (by omega) (by omega) (by omega) (by omega) (by omega)).trans C.2.1) 8 0 S k () (by omega) I
  exact ⟨k', e, I'⟩
theorem C187l {rb dr : Nat} {h0 hs : rz_H} (R : LwRel h0 rb) (hr : rb = 82 ∨ rb = 96) {A : Nat} (hA : isL A) (E : Ecl h0 rb hs) {n : Nat} (hn : n ≤ 240) (d : Nat) : ∀ c i (S : PS) k j5, i + c = n → PO S → (∃ jd, Wf rb dr jd k) → LC k A S.1 S.2.1 S.2.2.1 → Lf A hs k → ∃ k', rW (d + 7) 187 (4, (0, 0), [some (rz_r (some A)), some (rz_i (nI n)), some (rz_r (some 95)), some (rz_i (nI S.2.2.2)), some (rz_i (nI i)), j5], [], k) = some (rz_i (nI (pas h0 c S).2.2.2), k') ∧ (∃ jd, Wf rb dr jd k') ∧ LC k' A (pas h0 c S).1 (pas h0 c S).2.1 (pas h0 c S).2.2.1 ∧ Lf A hs k' := by
  have hA3 : A = 3 ∨ A = 29 ∨ A = 55 := hA
  intro c
  induction c with
  | zero =>
    intro i S k j5 hi O ⟨jd, w⟩ C f
    refine ⟨k, ?_, ⟨jd, w⟩, C, f⟩
    rw [E187_4]
    simp (disch := omega) only [↓cd_d, ↓irem_eq_mod, ↓ob_setI, ↓ob_chI, ↓ob_some, bI_some, bV_some, bR_some, bL_some, ob_some, cd_t, cd_f, okO_setI, okA_setI, okL_setI, aLen_setI, hR_setI, hI_setI, Bool.true_and, Bool.and_true, Bool.and_self, Option.isNone_some, Option.isSome_some, Option.isNone_none, Option.isSome_none, okO_chI, okA_chI, okL_chI, aLen_chI, hR_chI, ↓reduceIte, not_true_eq_false, not_false_eq_true, eq_self, c10, Nat.zero_add, nI_add, litA, litB, litM, nI_mul, nI_leI, nI_ltI, nI_eq, litLe, litLe2, litLt, litLt2, litEq, litEq2, in_nI, lit_in, nI_clamp, lit_cl, if_pos, if_neg]
    rfl
  | succ c ih =>
    intro i S k j5 hi O ⟨jd, w⟩ C f
    have htk := O.2.1
    by_cases hl : S.2.1 < 9999
    · obtain ⟨k2, e2, ⟨jd2, w2⟩, O2, C2, f2⟩ := C187i R hr hA E (tk := S.2.1) (by omega) n i d (S.1, S.2.2.1, S.2.2.2) k ⟨⟨jd, w⟩, ⟨O.1, O.2.2⟩, C, f⟩
      have C3 : LC (setI k2 A 1 (nI (S.2.1 + 1))) A (tk1 h0 S).1 (tk1 h0 S).2.1 (tk1 h0 S).2.2.1 := mkP_C _ C2
      have hgn := tk1_g h0 S
      obtain ⟨k3, e3, w3, C4, f3⟩ := ih (i + 1) (tk1 h0 S) (setI k2 A 1 (nI (S.2.1 + 1))) (some (rz_i (nI 8))) (by omega) (tk1_ok h0 O hl) ⟨jd2, w2⟩ C3 (fun b i h1 h2 h3 => by rw [hI_setI, if_neg (by omega)]; exact f2 b i h1 h2 h3)
      have hp : pas h0 (c + 1) S = pas h0 c (tk1 h0 S) := by rw [pas, if_pos hl]
      rw [hp]
      refine ⟨k3, ?_, w3, C4, f3⟩
      have t1 := C.2.1
      have t2 := C2.2.1
      rw [E187_4]
      simp (disch := omega) only [↓cd_d, ↓irem_eq_mod, ↓ob_setI, ↓ob_chI, ↓ob_some, bI_some, bV_some, bR_some, bL_some, ob_some, cd_t, cd_f, okO_setI, okA_setI, okL_setI, aLen_setI, hR_setI, hI_setI, Bool.true_and, Bool.and_true, Bool.and_self, Option.isNone_some, Option.isSome_some, Option.isNone_none, Option.isSome_none, okO_chI, okA_chI, okL_chI, aLen_chI, hR_chI, ↓reduceIte, not_true_eq_false, not_false_eq_true, eq_self, c10, Nat.zero_add, nI_add, litA, litB, litM, nI_mul, nI_leI, nI_ltI, nI_eq, litLe, litLe2, litLt, litLt2, litEq, litEq2, in_nI, lit_in, nI_clamp, lit_cl, if_pos, if_neg, WLd w hA, t1]
      refine Eq.trans e2 ?_
      rw [E187_13]
      rw [hgn] at e3
      generalize pas h0 c (tk1 h0 S) = Z at e3 ⊢
      generalize tks h0 S.2.1 (S.1, S.2.2.1, S.2.2.2) = r at e3 ⊢
      simp (disch := omega) only [↓cd_d, ↓irem_eq_mod, ↓ob_setI, ↓ob_chI, ↓ob_some, bI_some, bV_some, bR_some, bL_some, ob_some, cd_t, cd_f, okO_setI, okA_setI, okL_setI, aLen_setI, hR_setI, hI_setI, Bool.true_and, Bool.and_true, Bool.and_self, Option.isNone_some, Option.isSome_some, Option.isNone_none, Option.isSome_none, okO_chI, okA_chI, okL_chI, aLen_chI, hR_chI, ↓reduceIte, not_true_eq_false, not_false_eq_true, eq_self, c10, Nat.zero_add, nI_add, litA, litB, litM, nI_mul, nI_leI, nI_ltI, nI_eq, litLe, litLe2, litLt, litLt2, litEq, litEq2, in_nI, lit_in, nI_clamp, lit_cl, if_pos, if_neg, ↓WLb w2 hA, WLd w2 hA, t2]
      exact e3
    · have hp : pas h0 (c + 1) S = S := by rw [pas, if_neg hl]
      rw [hp]
      refine ⟨k, ?_, ⟨jd, w⟩, C, f⟩
      have t1 := C.2.1
      rw [E187_4]
      simp (disch := omega) only [↓cd_d, ↓irem_eq_mod, ↓ob_setI, ↓ob_chI, ↓ob_some, bI_some, bV_some, bR_some, bL_some, ob_some, cd_t, cd_f, okO_setI, okA_setI, okL_setI, aLen_setI, hR_setI, hI_setI, Bool.true_and, Bool.and_true, Bool.and_self, Option.isNone_some, Option.isSome_some, Option.isNone_none, Option.isSome_none, okO_chI, okA_chI, okL_chI, aLen_chI, hR_chI, ↓reduceIte, not_true_eq_false, not_false_eq_true, eq_self, c10, Nat.zero_add, nI_add, litA, litB, litM, nI_mul, nI_leI, nI_ltI, nI_eq, litLe, litLe2, litLt, litLt2, litEq, litEq2, in_nI, lit_in, nI_clamp, lit_cl, if_pos, if_neg, WLd w hA, t1]
theorem C187 {rb dr : Nat} {jd : Option Nat} {h : rz_H} (w : Wf rb dr jd h) {h0 : rz_H} (R : LwRel h0 rb) {A : Nat} (hA : isL A) (E : Ecl h0 rb h) {D : Nat → TU} {tk x : Nat} (O : LO D tk x) (C : LC h A D tk x) {n : Nat} (hn : n ≤ 240) (d : Nat) : ∃ k', cW (d + 8) 187 [rz_r (some A), rz_i (nI n), rz_r (some 95)] h = some (rz_i (nI (pas h0 n (D, tk, x, 0)).2.2.2), k') ∧ (∃ jd, Wf rb dr jd k') ∧ LC k' A (pas h0 n (D, tk, x, 0)).1 (pas h0 n (D, tk, x, 0)).2.1 (pas h0 n (D, tk, x, 0)).2.2.1 ∧ Lf A h k' := by
  rw [E187]
  exact C187l R (by have := lw_rb w; omega) hA E hn d n 0 (D, tk, x, 0) h none (by omega) O ⟨jd, w⟩ C (Lf.refl A h)
/-! the model's side -/
def Mg (h k : rz_H) : Prop := ∀ b i, b ≠ 110 → b ≠ 125 → b ≠ 126 → ¬ (b = 109 ∧ i = 36) → hI k b i = hI h b i
theorem Mg.refl (h : rz_H) : Mg h h := fun _ _ _ _ _ _ => rfl
theorem Mg.trans {a b c : rz_H} (x : Mg a b) (y : Mg b c) : Mg a c := fun p i h1 h2 h3 h4 => (y p i h1 h2 h3 h4).trans (x p i h1 h2 h3 h4)
def Mlw (h0 h : rz_H) : Prop := (∀ b i, 120 ≤ b → b ≤ 124 → hI h b i = hI h0 b i) ∧ hI h 109 13 = hI h0 109 13
theorem Mlw.mg {h0 h k : rz_H} (l : Mlw h0 h) (g : Mg h k) : Mlw h0 k := ⟨fun b i h1 h2 => (g b i (by omega) (by omega) (by omega) (by omega)).trans (l.1 b i h1 h2), (g 109 13 (by omega) (by omega) (by omega) (by omega)).trans l.2⟩
theorem M86 {rb dr : Nat} {jd : Option Nat} {h : rz_H} (w : Wf rb dr jd h) {h0 : rz_H} (R : LwRel h0 rb) (l : Mlw h0 h) {S : PS} (O : PO S) (hl : S.2.1 < 9999) (M : LM h S.1 S.2.1 S.2.2.1) (hg : hI h 109 36 = nI S.2.2.2) (d : Nat) : ∃ k', cW (d + 6) 86 [rz_r (some 109)] h = some (rz_i 0, k') ∧ k'.2 = h.2 ∧ LM k' (tk1 h0 S).1 (tk1 h0 S).2.1 (tk1 h0 S).2.2.1 ∧ hI k' 109 36 = nI (tk1 h0 S).2.2.2 ∧ Mg h k' := by
  obtain ⟨k2, -, e2, z1, O2, M2, g2, f2⟩ := lp_hs (τ := Unit) (fun kk (_ : SS) k _ => rW (d + 5) 86 (2, (0, 0), [some (rz_r (some 109)), some (rz_i (nI kk))], [], k)) (tkf h0 S.2.1) (fun _ s k => k.2 = h.2 ∧ SO s ∧ LM k s.1 S.2.1 s.2.1 ∧ hI k 109 36 = nI s.2.2 ∧ Mg h k) 8 (fun kk s k _ hk ⟨z, O, M, g, f⟩ => by
    have wk : Wf rb dr jd k := w.e z
    have c45 := M45 wk hk (O.1 kk hk) (M.1 kk hk)
    show ∃ k2 j2, rW (d + 5) 86 (2, (0, 0), [some (rz_r (some 109)), some (rz_i (nI kk))], [], k) = _ ∧ _
    unfold tkf
    cases hrn : rnT (s.1 kk).1 (s.1 kk).2.2.1 (s.1 kk).2.2.2.2.2.1 with
    | false =>
      rw [hrn] at c45
      refine ⟨k, (), ?_, ?_⟩
      · rw [E86_2]
        simp (disch := omega) only [↓cd_d, ↓irem_eq_mod, ↓ob_setI, ↓ob_chI, ↓ob_some, bI_some, bV_some, bR_some, bL_some, ob_some, cd_t, cd_f, okO_setI, okA_setI, okL_setI, aLen_setI, hR_setI, hI_setI, Bool.true_and, Bool.and_true, Bool.and_self, Option.isNone_some, Option.isSome_some, Option.isNone_none, Option.isSome_none, okO_chI, okA_chI, okL_chI, aLen_chI, hR_chI, ↓reduceIte, not_true_eq_false, not_false_eq_true, eq_self, c10, Nat.zero_add, nI_add, litA, litB, litM, nI_mul, nI_leI, nI_ltI, nI_eq, litLe, litLe2, litLt, litLt2, litEq, litEq2, in_nI, lit_in, nI_clamp, lit_cl, if_pos, if_neg, WMd wk, c45, bI1, Bool.false_eq_true]
      · rw [if_neg (by simp)]; exact ⟨z, O, M, g, f⟩
    | true =>
      rw [hrn] at c45
      rw [if_pos rfl]
      have l2 := l.mg f
      obtain ⟨k2, e2, y1, y2, y3, y4, y5⟩ := M85 wk R l2.1 l2.2 hk (O.1 kk hk) (M.1 kk hk) (rnT_F hrn) M.2.1 (by omega) M.2.2 O.2 g d
      refine ⟨k2, (), ?_, y1.trans z, ?_, ⟨fun j hj => ?_, ?_, y3⟩, y4, fun b i h1 h2 h3 h4 => (y5 b i h2 h3 h4 (by omega)).trans (f b i h1 h2 h3 h4)⟩
      · rw [E86_2]
        simp (disch := omega) only [↓cd_d, ↓irem_eq_mod, ↓ob_setI, ↓ob_chI, ↓ob_some, bI_some, bV_some, bR_some, bL_some, ob_some, cd_t, cd_f, okO_setI, okA_setI, okL_setI, aLen_setI, hR_setI, hI_setI, Bool.true_and, Bool.and_true, Bool.and_self, Option.isNone_some, Option.isSome_some, Option.isNone_none, Option.isSome_none, okO_chI, okA_chI, okL_chI, aLen_chI, hR_chI, ↓reduceIte, not_true_eq_false, not_false_eq_true, eq_self, c10, Nat.zero_add, nI_add, litA, litB, litM, nI_mul, nI_leI, nI_ltI, nI_eq, litLe, litLe2, litLt, litLt2, litEq, litEq2, in_nI, lit_in, nI_clamp, lit_cl, if_pos, if_neg, WMd wk, c45, bI1, e2]
      · have := tkf_ok h0 S.2.1 hk O
        unfold tkf at this
        rw [hrn, if_pos rfl] at this
        exact this
      · show tM k2 j (if j = kk then trn h0 kk S.2.1 (lcg s.2.1) (s.1 kk) else s.1 j)
        by_cases c : j = kk
        · subst c; rw [if_pos rfl]; exact y2
        · rw [if_neg c]
          have Oj := O.1 j hj
          have Mj := M.1 j hj
          have hF : (s.1 j).1 ≤ 16 := Oj.1
          obtain ⟨m1, m2, m3, m4, m5, m6, m7⟩ := Mj
          exact ⟨(y5 _ _ (by omega) (by omega) (by omega) (by omega)).trans m1, (y5 _ _ (by omega) (by omega) (by omega) (by omega)).trans m2, (y5 _ _ (by omega) (by omega) (by omega) (by omega)).trans m3, (y5 _ _ (by omega) (by omega) (by omega) (by omega)).trans m4, (y5 _ _ (by omega) (by omega) (by omega) (by omega)).trans m5, (y5 _ _ (by omega) (by omega) (by omega) (by omega)).trans m6, fun i hi => ⟨(y5 _ _ (by omega) (by omega) (by omega) (by omega)).trans (m7 i hi).1, (y5 _ _ (by omega) (by omega) (by omega) (by omega)).trans (m7 i hi).2⟩⟩
      · exact (y5 110 304 (by omega) (by omega) (by omega) (by omega)).trans M.2.1) 8 0 (S.1, S.2.2.1, S.2.2.2) h () (by omega) ⟨rfl, ⟨O.1, O.2.2⟩, M, hg, Mg.refl h⟩
  rw [show itr (tkf h0 S.2.1) 0 8 (S.1, S.2.2.1, S.2.2.2) = tks h0 S.2.1 (S.1, S.2.2.1, S.2.2.2) from rfl] at O2 M2 g2
  have w2 : Wf rb dr jd k2 := w.e z1
  have t2 := M2.2.1
  refine ⟨setI k2 110 304 (nI (S.2.1 + 1)), ?_, z1, mkP_M _ O2 M2, ?_, fun b i h1 h2 h3 h4 => by rw [hI_setI, if_neg (by omega)]; exact f2 b i h1 h2 h3 h4⟩
  · rw [E86]
    refine Eq.trans e2 ?_
    rw [E86_2]
    simp (disch := omega) only [↓cd_d, ↓irem_eq_mod, ↓ob_setI, ↓ob_chI, ↓ob_some, bI_some, bV_some, bR_some, bL_some, ob_some, cd_t, cd_f, okO_setI, okA_setI, okL_setI, aLen_setI, hR_setI, hI_setI, Bool.true_and, Bool.and_true, Bool.and_self, Option.isNone_some, Option.isSome_some, Option.isNone_none, Option.isSome_none, okO_chI, okA_chI, okL_chI, aLen_chI, hR_chI, ↓reduceIte, not_true_eq_false, not_false_eq_true, eq_self, c10, Nat.zero_add, nI_add, litA, litB, litM, nI_mul, nI_leI, nI_ltI, nI_eq, litLe, litLe2, litLt, litLt2, litEq, litEq2, in_nI, lit_in, nI_clamp, lit_cl, if_pos, if_neg, ↓WMb w2, WMd w2, t2]
  · rw [tk1_g, hI_setI, if_neg (by omega)]; exact g2
theorem M87l {rb dr : Nat} {jd : Option Nat} {h0 hs : rz_H} (R : LwRel h0 rb) (w0 : Wf rb dr jd hs) (l : Mlw h0 hs) {n : Nat} (hn : n ≤ 240) (d : Nat) : ∀ c i (S : PS) k, i + c = n → PO S → k.2 = hs.2 → LM k S.1 S.2.1 S.2.2.1 → hI k 109 36 = nI S.2.2.2 → Mg hs k → ∃ k', rW (d + 6) 87 (5, (0, 0), [some (rz_r (some 109)), some (rz_i (nI n)), some (rz_i (nI i))], [], k) = some (rz_i 0, k') ∧ k'.2 = hs.2 ∧ LM k' (pas h0 c S).1 (pas h0 c S).2.1 (pas h0 c S).2.2.1 ∧ hI k' 109 36 = nI (pas h0 c S).2.2.2 ∧ Mg hs k' := by
  intro c
  induction c with
  | zero =>
    intro i S k hi O z M g f
    refine ⟨k, ?_, z, M, g, f⟩
    rw [E87_5]
    simp (disch := omega) only [↓cd_d, ↓irem_eq_mod, ↓ob_setI, ↓ob_chI, ↓ob_some, bI_some, bV_some, bR_some, bL_some, ob_some, cd_t, cd_f, okO_setI, okA_setI, okL_setI, aLen_setI, hR_setI, hI_setI, Bool.true_and, Bool.and_true, Bool.and_self, Option.isNone_some, Option.isSome_some, Option.isNone_none, Option.isSome_none, okO_chI, okA_chI, okL_chI, aLen_chI, hR_chI, ↓reduceIte, not_true_eq_false, not_false_eq_true, eq_self, c10, Nat.zero_add, nI_add, litA, litB, litM, nI_mul, nI_leI, nI_ltI, nI_eq, litLe, litLe2, litLt, litLt2, litEq, litEq2, in_nI, lit_in, nI_clamp, lit_cl, if_pos, if_neg]
  | succ c ih =>
    intro i S k hi O z M g f
    have w : Wf rb dr jd k := w0.e z
    have htk := O.2.1
    have t1 := M.2.1
    by_cases hl : S.2.1 < 9999
    · obtain ⟨k2, e2, z2, M2, g2, f2⟩ := M86 w R (l.mg f) O hl M g d
      obtain ⟨k3, e3, z3, M3, g3, f3⟩ := ih (i + 1) (tk1 h0 S) k2 (by omega) (tk1_ok h0 O hl) (z2.trans z) M2 g2 (f.trans f2)
      have hp : pas h0 (c + 1) S = pas h0 c (tk1 h0 S) := by rw [pas, if_pos hl]
      rw [hp]
      refine ⟨k3, ?_, z3, M3, g3, f3⟩
      rw [E87_5]
      simp (disch := omega) only [↓cd_d, ↓irem_eq_mod, ↓ob_setI, ↓ob_chI, ↓ob_some, bI_some, bV_some, bR_some, bL_some, ob_some, cd_t, cd_f, okO_setI, okA_setI, okL_setI, aLen_setI, hR_setI, hI_setI, Bool.true_and, Bool.and_true, Bool.and_self, Option.isNone_some, Option.isSome_some, Option.isNone_none, Option.isSome_none, okO_chI, okA_chI, okL_chI, aLen_chI, hR_chI, ↓reduceIte, not_true_eq_false, not_false_eq_true, eq_self, c10, Nat.zero_add, nI_add, litA, litB, litM, nI_mul, nI_leI, nI_ltI, nI_eq, litLe, litLe2, litLt, litLt2, litEq, litEq2, in_nI, lit_in, nI_clamp, lit_cl, if_pos, if_neg, ↓WMb w, WMd w, t1, e2]
      exact e3
    · have hp : pas h0 (c + 1) S = S := by rw [pas, if_neg hl]
      rw [hp]
      refine ⟨k, ?_, z, M, g, f⟩
      rw [E87_5]
      simp (disch := omega) only [↓cd_d, ↓irem_eq_mod, ↓ob_setI, ↓ob_chI, ↓ob_some, bI_some, bV_some, bR_some, bL_some, ob_some, cd_t, cd_f, okO_setI, okA_setI, okL_setI, aLen_setI, hR_setI, hI_setI, Bool.true_and, Bool.and_true, Bool.and_self, Option.isNone_some, Option.isSome_some, Option.isNone_none, Option.isSome_none, okO_chI, okA_chI, okL_chI, aLen_chI, hR_chI, ↓reduceIte, not_true_eq_false, not_false_eq_true, eq_self, c10, Nat.zero_add, nI_add, litA, litB, litM, nI_mul, nI_leI, nI_ltI, nI_eq, litLe, litLe2, litLt, litLt2, litEq, litEq2, in_nI, lit_in, nI_clamp, lit_cl, if_pos, if_neg, ↓WMb w, WMd w, t1]
theorem M87 {rb dr : Nat} {jd : Option Nat} {h : rz_H} (w : Wf rb dr jd h) {h0 : rz_H} (R : LwRel h0 rb) (l : Mlw h0 h) {D : Nat → TU} {tk x : Nat} (O : LO D tk x) (M : LM h D tk x) {n : Nat} (hn : n ≤ 240) (d : Nat) : ∃ k', cW (d + 7) 87 [rz_r (some 109), rz_i (nI n)] h = some (rz_i 0, k') ∧ k'.2 = h.2 ∧ LM k' (pas h0 n (D, tk, x, 0)).1 (pas h0 n (D, tk, x, 0)).2.1 (pas h0 n (D, tk, x, 0)).2.2.1 ∧ hI k' 109 36 = nI (pas h0 n (D, tk, x, 0)).2.2.2 ∧ Mg h k' := by
  have w1 : Wf rb dr jd (setI h 109 36 0) := w
  have f1 : Mg h (setI h 109 36 0) := fun b i h1 h2 h3 h4 => by rw [hI_setI, if_neg h4]
  obtain ⟨k', e, z, M', g, f⟩ := M87l R w1 (l.mg f1) hn d n 0 (D, tk, x, 0) (setI h 109 36 0) (by omega) O rfl (M.to (fun _ => rfl)) rfl (Mg.refl _)
  refine ⟨k', ?_, z, M', g, f1.trans f⟩
  rw [E87]
  simp only [cd_t, WMd w]
  exact e
