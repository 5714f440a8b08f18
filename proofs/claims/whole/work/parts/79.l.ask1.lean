/-! what is asked of later ticks -/
theorem mkRel {rb dr : Nat} {jd : Option Nat} {h k : rz_H} {D : Nat → TU} {tk x : Nat} (r : TpRel h ∧ KpRel h ∧ LwRel h rb) (w : Wf rb dr jd k) (O : LO D tk x) (C : LC k 3 D tk x) (M : LM k D tk x) (f : ∀ b i, (b < 3 ∨ (29 ≤ b ∧ b < 55) ∨ b = 112 ∨ b = 113 ∨ (82 ≤ b ∧ b < 88) ∨ (96 ≤ b ∧ b < 102) ∨ (120 ≤ b ∧ b < 125) ∨ (b = 109 ∧ (i = 4 ∨ i = 13 ∨ i = 39))) → hI k b i = hI h b i) : Rel k := by
  have hrb := lw_rb w
  obtain ⟨r3, r4, r5⟩ := r
  obtain ⟨a, b⟩ := unL O C M
  exact Rel_mk w a b (r3.to (fun b hb i => f b i (by omega)) (f 109 4 (by omega))) (r4.to (fun b hb i => f b i (by omega)) (f 0 9 (by omega)) (f 109 39 (by omega))) (r5.to (fun b hb i => f b i (by omega)) (f 109 13 (by omega)))
def rnS (D : Nat → TU) (k : Nat) : Bool := rnT (D k).1 (D k).2.2.1 (D k).2.2.2.2.2.1
def pdS (D : Nat → TU) (k : Nat) : Bool := decide (0 < (D k).1) && decide ((D k).2.2.2.2.2.1 = 1)
theorem C184 {rb dr : Nat} {jd : Option Nat} {h : rz_H} (w : Wf rb dr jd h) {A : Nat} (hA : isL A) {D : Nat → TU} {tk x : Nat} (O : LO D tk x) (C : LC h A D tk x) (d : Nat) : cW (d + 2) 184 [rz_r (some A)] h = some (rz_i (nI (fbs (rnS D))), h) := by
  rw [E184]
  refine Eq.trans (lp_i0 (fun k s => rW (d + 1) 184 (4, (0, 0), [some (rz_r (some A)), some (rz_i (nI s)), some (rz_i (nI k))], [], h)) (fun k s => if rnS D k = true then s ||| 2 ^ k else s) 8 0 (fun k s hk => ?_)) ?_
  · obtain ⟨k1, k2⟩ := WLk w hA hk
    have c143 := C143 w k2 (O.1 k hk) (C.1 k hk)
    rw [show rnT (D k).1 (D k).2.2.1 (D k).2.2.2.2.2.1 = rnS D k from rfl] at c143
    rw [E184_4]
    cases htd : rnS D k <;> rw [htd] at c143 <;> simp (disch := omega) only [bI_some, bV_some, bR_some, bL_some, ob_some, cd_t, cd_f, cd_d, okO_setI, okA_setI, okL_setI, aLen_setI, hR_setI, hI_setI, Bool.true_and, Bool.and_true, Bool.and_self, Option.isNone_some, Option.isSome_some, Option.isNone_none, Option.isSome_none, okO_chI, okA_chI, okL_chI, aLen_chI, hR_chI, ↓reduceIte, not_true_eq_false, not_false_eq_true, eq_self, c10, Nat.zero_add, nI_add, litA, litB, litM, nI_mul, nI_leI, nI_ltI, nI_eq, litLe, litLe2, litLt, litLt2, litEq, litEq2, in_nI, lit_in, nI_clamp, lit_cl, if_pos, if_neg, WLd w hA, k1, WD w k2, c143, bI1, or0, bit_nI, nI_or, Bool.false_eq_true]
  · rw [E184_4]
    simp (disch := omega) only [bI_some, bV_some, bR_some, bL_some, ob_some, cd_t, cd_f, cd_d, okO_setI, okA_setI, okL_setI, aLen_setI, hR_setI, hI_setI, Bool.true_and, Bool.and_true, Bool.and_self, Option.isNone_some, Option.isSome_some, Option.isNone_none, Option.isSome_none, okO_chI, okA_chI, okL_chI, aLen_chI, hR_chI, ↓reduceIte, not_true_eq_false, not_false_eq_true, eq_self, c10, Nat.zero_add, nI_add, litA, litB, litM, nI_mul, nI_leI, nI_ltI, nI_eq, litLe, litLe2, litLt, litLt2, litEq, litEq2, in_nI, lit_in, nI_clamp, lit_cl, if_pos, if_neg, WLd w hA]
    rfl
theorem C185 {rb dr : Nat} {jd : Option Nat} {h : rz_H} (w : Wf rb dr jd h) {A : Nat} (hA : isL A) {D : Nat → TU} {tk x : Nat} (O : LO D tk x) (C : LC h A D tk x) (d : Nat) : cW (d + 2) 185 [rz_r (some A)] h = some (rz_i (nI (fbs (pdS D))), h) := by
  rw [E185]
  refine Eq.trans (lp_i0 (fun k s => rW (d + 1) 185 (4, (0, 0), [some (rz_r (some A)), some (rz_i (nI s)), some (rz_i (nI k))], [], h)) (fun k s => if pdS D k = true then s ||| 2 ^ k else s) 8 0 (fun k s hk => ?_)) ?_
  · obtain ⟨k1, k2⟩ := WLk w hA hk
    have Ok := O.1 k hk
    have Ck := C.1 k hk
    have c142 := C142 w k2 Ok Ck
    unfold pdS
    generalize D k = T at Ok Ck c142
    obtain ⟨F, p, t, v, s2, q, g, e⟩ := T
    have hq : q ≤ 1 := Ok.2.2.2.1
    have c6 : hI h (A + 2 + 3 * k) 7 = nI q := Ck.2.2.2.2.2.1
    have l141 : ∀ d, cW (d + 1) 141 [rz_r (some (A + 2 + 3 * k))] h = some (rz_i (nI q), h) := fun d => by
      rw [S141 w k2 d (by rw [c6]; rcases (show q = 0 ∨ q = 1 by omega) with rfl | rfl; exact Or.inl rfl; exact Or.inr rfl), c6]
    have c142 : ∀ d, cW (d + 1) 142 [rz_r (some (A + 2 + 3 * k))] h = some (rz_i (bI1 (decide (0 < F))), h) := c142
    show rW (d + 1) 185 (4, (0, 0), [some (rz_r (some A)), some (rz_i (nI s)), some (rz_i (nI k))], [], h) = rW (d + 1) 185 (4, (0, 0), [some (rz_r (some A)), some (rz_i (nI (if (decide (0 < F) && decide (q = 1)) = true then s ||| 2 ^ k else s))), some (rz_i (nI (k + 1)))], [], h)
    rw [E185_4]
    rcases (show q = 0 ∨ q = 1 by omega) with rfl | rfl
    · cases htd : decide (0 < F) <;> rw [htd] at c142 <;> simp (disch := omega) only [bI_some, bV_some, bR_some, bL_some, ob_some, cd_t, cd_f, cd_d, okO_setI, okA_setI, okL_setI, aLen_setI, hR_setI, hI_setI, Bool.true_and, Bool.and_true, Bool.and_self, Option.isNone_some, Option.isSome_some, Option.isNone_none, Option.isSome_none, okO_chI, okA_chI, okL_chI, aLen_chI, hR_chI, ↓reduceIte, not_true_eq_false, not_false_eq_true, eq_self, c10, Nat.zero_add, nI_add, litA, litB, litM, nI_mul, nI_leI, nI_ltI, nI_eq, litLe, litLe2, litLt, litLt2, litEq, litEq2, in_nI, lit_in, nI_clamp, lit_cl, if_pos, if_neg, WLd w hA, k1, WD w k2, c142, l141, bI1, or0, bit_nI, nI_or, Bool.false_eq_true, Bool.false_and, Bool.true_and, show decide (0 = 1) = false from rfl, show nI 0 = (0 : Int32) from rfl]
    · cases htd : decide (0 < F) <;> rw [htd] at c142 <;> simp (disch := omega) only [bI_some, bV_some, bR_some, bL_some, ob_some, cd_t, cd_f, cd_d, okO_setI, okA_setI, okL_setI, aLen_setI, hR_setI, hI_setI, Bool.true_and, Bool.and_true, Bool.and_self, Option.isNone_some, Option.isSome_some, Option.isNone_none, Option.isSome_none, okO_chI, okA_chI, okL_chI, aLen_chI, hR_chI, ↓reduceIte, not_true_eq_false, not_false_eq_true, eq_self, c10, Nat.zero_add, nI_add, litA, litB, litM, nI_mul, nI_leI, nI_ltI, nI_eq, litLe, litLe2, litLt, litLt2, litEq, litEq2, in_nI, lit_in, nI_clamp, lit_cl, if_pos, if_neg, WLd w hA, k1, WD w k2, c142, l141, bI1, or0, bit_nI, nI_or, Bool.false_eq_true, Bool.false_and, Bool.true_and, decide_true]
  · rw [E185_4]
    simp (disch := omega) only [bI_some, bV_some, bR_some, bL_some, ob_some, cd_t, cd_f, cd_d, okO_setI, okA_setI, okL_setI, aLen_setI, hR_setI, hI_setI, Bool.true_and, Bool.and_true, Bool.and_self, Option.isNone_some, Option.isSome_some, Option.isNone_none, Option.isSome_none, okO_chI, okA_chI, okL_chI, aLen_chI, hR_chI, ↓reduceIte, not_true_eq_false, not_false_eq_true, eq_self, c10, Nat.zero_add, nI_add, litA, litB, litM, nI_mul, nI_leI, nI_ltI, nI_eq, litLe, litLe2, litLt, litLt2, litEq, litEq2, in_nI, lit_in, nI_clamp, lit_cl, if_pos, if_neg, WLd w hA]
    rfl
theorem M88 {rb dr : Nat} {jd : Option Nat} {h : rz_H} (w : Wf rb dr jd h) {D : Nat → TU} {tk x : Nat} (O : LO D tk x) (M : LM h D tk x) (d : Nat) : cW (d + 4) 88 [rz_r (some 109)] h = some (rz_i (nI (fbs (rnS D))), h) := by
  rw [E88]
  refine Eq.trans (lp_i0 (fun k s => rW (d + 3) 88 (4, (0, 0), [some (rz_r (some 109)), some (rz_i (nI s)), some (rz_i (nI k))], [], h)) (fun k s => if rnS D k = true then s ||| 2 ^ k else s) 8 0 (fun k s hk => ?_)) ?_
  · have c45 := M45 w hk (O.1 k hk) (M.1 k hk)
    rw [show rnT (D k).1 (D k).2.2.1 (D k).2.2.2.2.2.1 = rnS D k from rfl] at c45
    rw [E88_4]
    cases htd : rnS D k <;> rw [htd] at c45 <;> simp (disch := omega) only [bI_some, bV_some, bR_some, bL_some, ob_some, cd_t, cd_f, cd_d, okO_setI, okA_setI, okL_setI, aLen_setI, hR_setI, hI_setI, Bool.true_and, Bool.and_true, Bool.and_self, Option.isNone_some, Option.isSome_some, Option.isNone_none, Option.isSome_none, okO_chI, okA_chI, okL_chI, aLen_chI, hR_chI, ↓reduceIte, not_true_eq_false, not_false_eq_true, eq_self, c10, Nat.zero_add, nI_add, litA, litB, litM, nI_mul, nI_leI, nI_ltI, nI_eq, litLe, litLe2, litLt, litLt2, litEq, litEq2, in_nI, lit_in, nI_clamp, lit_cl, if_pos, if_neg, WMd w, c45, bI1, bit_nI, nI_or, Bool.false_eq_true]
  · rw [E88_4]
    simp (disch := omega) only [bI_some, bV_some, bR_some, bL_some, ob_some, cd_t, cd_f, cd_d, okO_setI, okA_setI, okL_setI, aLen_setI, hR_setI, hI_setI, Bool.true_and, Bool.and_true, Bool.and_self, Option.isNone_some, Option.isSome_some, Option.isNone_none, Option.isSome_none, okO_chI, okA_chI, okL_chI, aLen_chI, hR_chI, ↓reduceIte, not_true_eq_false, not_false_eq_true, eq_self, c10, Nat.zero_add, nI_add, litA, litB, litM, nI_mul, nI_leI, nI_ltI, nI_eq, litLe, litLe2, litLt, litLt2, litEq, litEq2, in_nI, lit_in, nI_clamp, lit_cl, if_pos, if_neg]
    rfl
theorem M89 {rb dr : Nat} {jd : Option Nat} {h : rz_H} (w : Wf rb dr jd h) {D : Nat → TU} {tk x : Nat} (O : LO D tk x) (M : LM h D tk x) (d : Nat) : cW (d + 3) 89 [rz_r (some 109)] h = some (rz_i (nI (fbs (pdS D))), h) := by
  rw [E89]
  refine Eq.trans (lp_i0 (fun k s => rW (d + 2) 89 (4, (0, 0), [some (rz_r (some 109)), some (rz_i (nI s)), some (rz_i (nI k))], [], h)) (fun k s => if pdS D k = true then s ||| 2 ^ k else s) 8 0 (fun k s hk => ?_)) ?_
  · have Ok := O.1 k hk
    have Mk := M.1 k hk
    have c39 := M39 w hk Ok Mk
    unfold pdS
    generalize D k = T at Ok Mk c39
    obtain ⟨F, p, t, v, s2, q, g, e⟩ := T
    have hq : q ≤ 1 := Ok.2.2.2.1
    have m6 : hI h 110 (296 + k) = nI q := Mk.2.2.2.2.2.1
    have c39 : ∀ d, cW (d + 2) 39 [rz_r (some 109), rz_i (nI k)] h = some (rz_i (bI1 (decide (0 < F))), h) := c39
    show rW (d + 2) 89 (4, (0, 0), [some (rz_r (some 109)), some (rz_i (nI s)), some (rz_i (nI k))], [], h) = rW (d + 2) 89 (4, (0, 0), [some (rz_r (some 109)), some (rz_i (nI (if (decide (0 < F) && decide (q = 1)) = true then s ||| 2 ^ k else s))), some (rz_i (nI (k + 1)))], [], h)
    rw [E89_4]
    rcases (show q = 0 ∨ q = 1 by omega) with rfl | rfl
    · cases htd : decide (0 < F) <;> rw [htd] at c39 <;> simp (disch := omega) only [bI_some, bV_some, bR_some, bL_some, ob_some, cd_t, cd_f, cd_d, okO_setI, okA_setI, okL_setI, aLen_setI, hR_setI, hI_setI, Bool.true_and, Bool.and_true, Bool.and_self, Option.isNone_some, Option.isSome_some, Option.isNone_none, Option.isSome_none, okO_chI, okA_chI, okL_chI, aLen_chI, hR_chI, ↓reduceIte, not_true_eq_false, not_false_eq_true, eq_self, c10, Nat.zero_add, nI_add, litA, litB, litM, nI_mul, nI_leI, nI_ltI, nI_eq, litLe, litLe2, litLt, litLt2, litEq, litEq2, in_nI, lit_in, nI_clamp, lit_cl, if_pos, if_neg, WMd w, c39, m6, bI1, bit_nI, nI_or, Bool.false_eq_true, Bool.false_and, Bool.true_and, show decide (0 = 1) = false from rfl]
    · cases htd : decide (0 < F) <;> rw [htd] at c39 <;> simp (disch := omega) only [bI_some, bV_some, bR_some, bL_some, ob_some, cd_t, cd_f, cd_d, okO_setI, okA_setI, okL_setI, aLen_setI, hR_setI, hI_setI, Bool.true_and, Bool.and_true, Bool.and_self, Option.isNone_some, Option.isSome_some, Option.isNone_none, Option.isSome_none, okO_chI, okA_chI, okL_chI, aLen_chI, hR_chI, ↓reduceIte, not_true_eq_false, not_false_eq_true, eq_self, c10, Nat.zero_add, nI_add, litA, litB, litM, nI_mul, nI_leI, nI_ltI, nI_eq, litLe, litLe2, litLt, litLt2, litEq, litEq2, in_nI, lit_in, nI_clamp, lit_cl, if_pos, if_neg, WMd w, c39, m6, bI1, bit_nI, nI_or, Bool.false_eq_true, Bool.false_and, Bool.true_and, decide_true]
  · rw [E89_4]
    simp (disch := omega) only [bI_some, bV_some, bR_some, bL_some, ob_some, cd_t, cd_f, cd_d, okO_setI, okA_setI, okL_setI, aLen_setI, hR_setI, hI_setI, Bool.true_and, Bool.and_true, Bool.and_self, Option.isNone_some, Option.isSome_some, Option.isNone_none, Option.isSome_none, okO_chI, okA_chI, okL_chI, aLen_chI, hR_chI, ↓reduceIte, not_true_eq_false, not_false_eq_true, eq_self, c10, Nat.zero_add, nI_add, litA, litB, litM, nI_mul, nI_leI, nI_ltI, nI_eq, litLe, litLe2, litLt, litLt2, litEq, litEq2, in_nI, lit_in, nI_clamp, lit_cl, if_pos, if_neg]
    rfl
theorem C181 {rb dr : Nat} {jd : Option Nat} {h : rz_H} (w : Wf rb dr jd h) {A k : Nat} (hA : isL A) (hk : k < 8) {F p t v s q : Nat} {g e : Nat → Nat} (O : tOk F p t v s q g e) (C : Dc h (A + 2 + 3 * k) F p t v s q g e) (h0 : 0 < F) (d : Nat) : cW (d + 2) 181 [rz_r (some A), rz_i (nI k)] h = some (rz_r (some (A + 2 + 3 * k)), h) := by
  obtain ⟨k1, hd⟩ := WLk w hA hk
  have c142 := C142 w hd O C
  rw [decide_eq_true h0] at c142
  rw [E181]
  simp (disch := omega) only [↓cd_d, ↓irem_eq_mod, ↓ob_setI, ↓ob_chI, ↓ob_some, bI_some, bV_some, bR_some, bL_some, ob_some, cd_t, cd_f, okO_setI, okA_setI, okL_setI, aLen_setI, hR_setI, hI_setI, Bool.true_and, Bool.and_true, Bool.and_self, Option.isNone_some, Option.isSome_some, Option.isNone_none, Option.isSome_none, okO_chI, okA_chI, okL_chI, aLen_chI, hR_chI, ↓reduceIte, not_true_eq_false, not_false_eq_true, eq_self, c10, Nat.zero_add, nI_add, litA, litB, litM, nI_mul, nI_leI, nI_ltI, nI_eq, litLe, litLe2, litLt, litLt2, litEq, litEq2, in_nI, lit_in, nI_clamp, lit_cl, if_pos, if_neg, ↓WLb w hA, ↓obR k1, WLd w hA, WD w hd, c142, bI1, k1]
/-- laws in the heap that it begins with -/
theorem Ecl.self (h : rz_H) (rb : Nat) : Ecl h rb h := fun _ _ _ _ => rfl
theorem Mlw.lf {A : Nat} {h k : rz_H} (hA : isL A) (f : Lf A h k) : Mlw h k := by
  have hA3 : A = 3 ∨ A = 29 ∨ A = 55 := hA
  exact ⟨fun b i h1 h2 => f b i (by omega) (by omega) (by omega), f 109 13 (by omega) (by omega) (by omega)⟩
theorem P5 (x : Int32) : Pr Rel 5 90 [rz_i x] := by
  intro h r
  obtain ⟨rb, dr, jd, w, r1, r2, r3, r4, r5⟩ := id r
  have hL : isL 3 := Or.inl rfl
  by_cases hx : 1 ≤ x ∧ x ≤ 240
  · have h1 := Int32.not_lt.mpr hx.1
    obtain ⟨n, hn, rfl⟩ := nI_of2 (x := x) (M := 240) (n := 240) rfl (fun q => h1 (Int32.lt_trans q (by decide))) hx.2
    obtain ⟨D, tk, y, O, C, M⟩ := mkL hL r1 r2
    obtain ⟨k1, e1, ⟨jd1, w1⟩, C1, f1⟩ := C187 w r5 hL (Ecl.self h rb) O C hn 91
    have O1 := pas_ok h n (D, tk, y, 0) O
    have M1 : LM k1 D tk y := M.to (fun i => f1 110 i (by omega) (by omega) (by omega))
    obtain ⟨k2, e2, z2, M2, -, g2⟩ := M87 w1 r5 (Mlw.lf hL f1) O M1 hn 92
    have w2 : Wf rb dr jd1 k2 := w1.e z2
    have C2 : LC k2 3 (pas h n (D, tk, y, 0)).1 (pas h n (D, tk, y, 0)).2.1 (pas h n (D, tk, y, 0)).2.2.1 := C1.to (fun b b1 b2 i => g2 b i (by omega) (by omega) (by omega) (by omega))
    have c184 := C184 w1 hL O1 C1
    have c88 := M88 w2 O1 M2
    have lt := fbs_lt (rnS (pas h n (D, tk, y, 0)).1)
    refine ⟨nI (pcn (fbs (rnS (pas h n (D, tk, y, 0)).1))), k1, k2, ?_, ?_, (WMd w1).1, mkRel ⟨r3, r4, r5⟩ w2 O1 C2 M2 (fun b i hb => (g2 b i (by omega) (by omega) (by omega) (by omega)).trans (f1 b i (by omega) (by omega) (by omega)))⟩
    · rw [show DD = 99 + 1 from rfl, E5]
      simp only [bI_some, bV_some, bR_some, bL_some, ob_some, cd_t, cd_f, cd_d, okO_setI, okA_setI, okL_setI, aLen_setI, hR_setI, hI_setI, Bool.true_and, Bool.and_true, Bool.and_self, Option.isNone_some, Option.isSome_some, Option.isNone_none, Option.isSome_none, okO_chI, okA_chI, okL_chI, aLen_chI, hR_chI, ↓reduceIte, not_true_eq_false, not_false_eq_true, eq_self, c10, ↓WCb w, ↓WCb w1, WRt w, WRt w1, if_neg h1, if_pos hx.2, e1, c184, S275 _ _ lt]
    · rw [show DD = 99 + 1 from rfl, E90]
      simp only [bI_some, bV_some, bR_some, bL_some, ob_some, cd_t, cd_f, cd_d, okO_setI, okA_setI, okL_setI, aLen_setI, hR_setI, hI_setI, Bool.true_and, Bool.and_true, Bool.and_self, Option.isNone_some, Option.isSome_some, Option.isNone_none, Option.isSome_none, okO_chI, okA_chI, okL_chI, aLen_chI, hR_chI, ↓reduceIte, not_true_eq_false, not_false_eq_true, eq_self, c10, S33, if_pos hx, WMd w1, WMd w2, e2, c88, S37 _ _ lt]
  · refine ⟨-1, h, h, ?_, ?_, (WMd w).1, r⟩
    · rw [show DD = 99 + 1 from rfl, E5]
      by_cases h1 : x < 1
      · simp only [bI_some, bV_some, bR_some, bL_some, ob_some, cd_t, cd_f, cd_d, okO_setI, okA_setI, okL_setI, aLen_setI, hR_setI, hI_setI, Bool.true_and, Bool.and_true, Bool.and_self, Option.isNone_some, Option.isSome_some, Option.isNone_none, Option.isSome_none, okO_chI, okA_chI, okL_chI, aLen_chI, hR_chI, ↓reduceIte, not_true_eq_false, not_false_eq_true, eq_self, c10, if_pos h1]
      · have h2 : ¬ x ≤ 240 := fun e => hx ⟨Int32.not_lt.mp h1, e⟩
        simp only [bI_some, bV_some, bR_some, bL_some, ob_some, cd_t, cd_f, cd_d, okO_setI, okA_setI, okL_setI, aLen_setI, hR_setI, hI_setI, Bool.true_and, Bool.and_true, Bool.and_self, Option.isNone_some, Option.isSome_some, Option.isNone_none, Option.isSome_none, okO_chI, okA_chI, okL_chI, aLen_chI, hR_chI, ↓reduceIte, not_true_eq_false, not_false_eq_true, eq_self, c10, if_neg h1, if_neg h2]
    · rw [show DD = 99 + 1 from rfl, E90]
      simp only [bI_some, bV_some, bR_some, bL_some, ob_some, cd_t, cd_f, cd_d, okO_setI, okA_setI, okL_setI, aLen_setI, hR_setI, hI_setI, Bool.true_and, Bool.and_true, Bool.and_self, Option.isNone_some, Option.isSome_some, Option.isNone_none, Option.isSome_none, okO_chI, okA_chI, okL_chI, aLen_chI, hR_chI, ↓reduceIte, not_true_eq_false, not_false_eq_true, eq_self, c10, S33, if_neg hx]
/-- the class tries -/
theorem try55 {rb dr : Nat} {jd : Option Nat} {h : rz_H} (w : Wf rb dr jd h) (r1 : LaOk h 3) {D : Nat → TU} {tk x : Nat} (O : LO D tk x) (C : LC h 3 D tk x) : ∃ k, (∀ d, cW (d + 2) 191 [rz_r (some 55), rz_r (some 3)] h = some (rz_i 0, k)) ∧ Wf rb dr jd k ∧ LC k 55 D tk x ∧ Lf 55 h k := by
  refine ⟨chI h (fun c i => if c = 55 ∧ (i = 1 ∨ i = 2) then hI h 3 i else lcp h 55 3 8 c i), fun d => S191 w (Or.inr (Or.inr rfl) : isL 55) (Or.inl rfl : isL 3) (by omega) r1 d, w, LC.cp (Or.inr (by omega)) O C (fun c _ _ i => rfl), fun b i h1 _ _ => lcp_out h1⟩
/-- the model tries and puts back -/
theorem tryM {rb dr : Nat} {jd : Option Nat} {h : rz_H} (w : Wf rb dr jd h) : ∃ k, (∀ d, cW (d + 1) 38 [rz_r (some 110), rz_r (some 111)] h = some (rz_i 0, k)) ∧ Wf rb dr jd k ∧ (∀ i, i < 306 → hI k 111 i = hI h 110 i) ∧ ∀ b i, b ≠ 111 → hI k b i = hI h b i := by
  refine ⟨chI h (fun b i => if b = 111 ∧ i < 306 then hI h 110 i else hI h b i), fun d => S38 w d 110 111 (fun x => by simp only [WMd w]) (fun x => by simp only [WMd w]) (by omega), w, fun i hi => by rw [hI_chI, if_pos ⟨rfl, hi⟩], fun b i hb => by rw [hI_chI, if_neg (fun z => hb z.1)]⟩
theorem putM {rb dr : Nat} {jd : Option Nat} {h : rz_H} (w : Wf rb dr jd h) : ∃ k, (∀ d, cW (d + 1) 38 [rz_r (some 111), rz_r (some 110)] h = some (rz_i 0, k)) ∧ Wf rb dr jd k ∧ (∀ i, i < 306 → hI k 110 i = hI h 111 i) ∧ ∀ b i, b ≠ 110 → hI k b i = hI h b i := by
  refine ⟨chI h (fun b i => if b = 110 ∧ i < 306 then hI h 111 i else hI h b i), fun d => S38 w d 111 110 (fun x => by simp only [WMd w]) (fun x => by simp only [WMd w]) (by omega), w, fun i hi => by rw [hI_chI, if_pos ⟨rfl, hi⟩], fun b i hb => by rw [hI_chI, if_neg (fun z => hb z.1)]⟩
theorem LM.to3 {h h2 : rz_H} {D : Nat → TU} {tk x : Nat} (O : LO D tk x) (M : LM h D tk x) (E : ∀ i, i < 306 → hI h2 110 i = hI h 110 i) : LM h2 D tk x := by
  refine ⟨fun j hj => ?_, (E 304 (by omega)).trans M.2.1, (E 305 (by omega)).trans M.2.2⟩
  have Oj := O.1 j hj
  have Mj := M.1 j hj
  have hF : (D j).1 ≤ 16 := Oj.1
  obtain ⟨m1, m2, m3, m4, m5, m6, m7⟩ := Mj
  exact ⟨(E _ (by omega)).trans m1, (E _ (by omega)).trans m2, (E _ (by omega)).trans m3, (E _ (by omega)).trans m4, (E _ (by omega)).trans m5, (E _ (by omega)).trans m6, fun i hi => ⟨(E _ (by omega)).trans (m7 i hi).1, (E _ (by omega)).trans (m7 i hi).2⟩⟩
/-- all is as before -/
theorem askRel {rb dr : Nat} {jd jd1 : Option Nat} {h k1 m0 m1 m2 : rz_H} {D : Nat → TU} {tk x : Nat} (w : Wf rb dr jd h) (r : TpRel h ∧ KpRel h ∧ LwRel h rb) (O : LO D tk x) (C : LC h 3 D tk x) (M : LM h D tk x) (f : Lf 55 h k1) (a1 : ∀ i, i < 306 → hI m0 111 i = hI k1 110 i) (a2 : ∀ b i, b ≠ 111 → hI m0 b i = hI k1 b i) (g : Mg m0 m1) (w2 : Wf rb dr jd1 m2) (b1 : ∀ i, i < 306 → hI m2 110 i = hI m1 111 i) (b2 : ∀ b i, b ≠ 110 → hI m2 b i = hI m1 b i) : Rel m2 := by
  have hrb := lw_rb w
  have key : ∀ b i, b ≠ 110 → b ≠ 111 → b ≠ 125 → b ≠ 126 → ¬ (b = 109 ∧ i = 36) → (b < 55 ∨ 81 ≤ b) → b ≠ 95 → b ≠ 102 → hI m2 b i = hI h b i := fun b i n1 n2 n3 n4 n5 n6 n7 n8 => by
    rw [b2 b i n1, g b i n1 n3 n4 n5, a2 b i n2, f b i (by omega) n7 n8]
  refine mkRel r w2 O (C.to fun b h1 h2 i => key b i (by omega) (by omega) (by omega) (by omega) (by omega) (by omega) (by omega) (by omega)) (LM.to3 O M fun i hi => ?_) (fun b i hb => key b i (by omega) (by omega) (by omega) (by omega) (by omega) (by omega) (by omega) (by omega))
  rw [b1 i hi, g 111 i (by omega) (by omega) (by omega) (by omega), a1 i hi, f 110 i (by omega) (by omega) (by omega)]
theorem trn_F (h0 : rz_H) (k tk x : Nat) (T : TU) : (trn h0 k tk x T).1 = T.1 := rfl
theorem tkf_F (h0 : rz_H) (tk k : Nat) (S : SS) (j : Nat) : ((tkf h0 tk k S).1 j).1 = (S.1 j).1 := by
  unfold tkf
  split
  · show (if j = k then trn h0 k tk (lcg S.2.1) (S.1 k) else S.1 j).1 = _
    split
    · rename_i c; subst c; exact trn_F _ _ _ _ _
    · rfl
  · rfl
theorem tks_F (h0 : rz_H) (tk : Nat) (j : Nat) : ∀ c i S, ((itr (tkf h0 tk) i c S).1 j).1 = (S.1 j).1
  | 0, _, _ => rfl
  | c + 1, i, S => by
    show ((itr (tkf h0 tk) (i + 1) c (tkf h0 tk i S)).1 j).1 = _
    rw [tks_F h0 tk j c (i + 1), tkf_F]
theorem mkP_F (r : SS) (t j : Nat) : ((mkP r t).1 j).1 = (r.1 j).1 := rfl
theorem tk1_F (h0 : rz_H) (S : PS) (j : Nat) : ((tk1 h0 S).1 j).1 = (S.1 j).1 := by
  rw [tk1, mkP_F, tks, tks_F]
theorem pas_F (h0 : rz_H) (j : Nat) : ∀ n S, ((pas h0 n S).1 j).1 = (S.1 j).1
  | 0, _ => rfl
  | n + 1, S => by
    unfold pas
    split
    · rw [pas_F h0 j n, tk1_F]
    · rfl
/-- a drum is told, or it isn't -/
theorem tlS {h : rz_H} {D : Nat → TU} {tk x : Nat} (O : LO D tk x) (C : LC h 3 D tk x) (M : LM h D tk x) (y : Int32) : (∃ k, k < 8 ∧ y = nI k ∧ 0 < (D k).1) ∨ Dn h y := by
  by_cases hy : ∃ k, k < 8 ∧ y = nI k ∧ 0 < (D k).1
  · exact Or.inl hy
  · refine Or.inr fun k hk e => ?_
    have hF : (D k).1 = 0 := Nat.eq_zero_of_not_pos fun q => hy ⟨k, hk, e, q⟩
    have c1 : hI h (3 + 2 + 3 * k) 2 = nI (D k).1 := (C.1 k hk).1
    have m1 : hI h 110 (256 + k) = nI (D k).1 := (M.1 k hk).1
    rw [hF, show 3 + 2 + 3 * k = 5 + 3 * k by omega] at c1
    rw [hF] at m1
    exact ⟨c1, m1⟩
def shT (T : TU) : Nat := shw T.2.2.2.2.2.2.1 T.2.2.2.2.2.2.2 T.2.1
theorem M43p {rb dr : Nat} {jd : Option Nat} {h : rz_H} (w : Wf rb dr jd h) {k : Nat} (hk : k < 8) {T : TU} (O : tO T) (M : tM h k T) (h0 : 0 < T.1) : hI h 110 (264 + k) = nI T.2.1 ∧ (∀ d, cW (d + 1) 43 [rz_r (some 109), rz_i (nI k), rz_i (nI T.2.1)] h = some (rz_i (nI (shT T)), h)) :=
  ⟨M.2.1, fun d => M43 w hk O M (O.2.2.2.2.2.1 h0).1 d⟩
theorem C146p {rb dr : Nat} {jd : Option Nat} {h : rz_H} (w : Wf rb dr jd h) {a : Nat} (hd : isD a) {T : TU} (O : tO T) (C : tC h a T) (h0 : 0 < T.1) (d : Nat) : cW (d + 1) 146 [rz_r (some a)] h = some (rz_i (nI (shT T)), h) := C146 w hd O C h0 d
theorem P9 (x y : Int32) : Pr Rel 9 94 [rz_i x, rz_i y] := by
  intro h r
  obtain ⟨rb, dr, jd, w, r1, r2, r3, r4, r5⟩ := id r
  have hL : isL 3 := Or.inl rfl
  have hL5 : isL 55 := Or.inr (Or.inr rfl)
  obtain ⟨D, tk, z, O, C, M⟩ := mkL hL r1 r2
  rcases tlS O C M x with ⟨k, hk, rfl, hF⟩ | nx
  · have c181 := C181 w hL hk (O.1 k hk) (C.1 k hk) hF
    have c39 := M39 w hk (O.1 k hk) (M.1 k hk)
    rw [decide_eq_true hF] at c39
    by_cases hy : 0 ≤ y ∧ y ≤ 240
    · have h1 := Int32.not_lt.mpr hy.1
      obtain ⟨n, hn, rfl⟩ := nI_of2 (x := y) (M := 240) (n := 240) rfl h1 hy.2
      obtain ⟨k0, e0, w0, C0, f0⟩ := try55 w r1 O C
      obtain ⟨k1, e1, ⟨jd1, w1⟩, C1, f1⟩ := C187 w0 r5 hL5 ((Ecl.self h rb).lf hL5 (by have := lw_rb w; omega) f0) O C0 hn 91
      have O1 := pas_ok h n (D, tk, z, 0) O
      have F1 : 0 < ((pas h n (D, tk, z, 0)).1 k).1 := by rw [pas_F]; exact hF
      obtain ⟨-, hd⟩ := WLk w1 hL5 hk
      have c181b := C181 w1 hL5 hk (O1.1 k hk) (C1.1 k hk) F1
      have c146 := C146p w1 hd (O1.1 k hk) (C1.1 k hk) F1
      have f01 := f0.trans f1
      obtain ⟨m0, e2, v0, a1, a2⟩ := tryM w1
      have M0 : LM m0 D tk z := M.to (fun i => (a2 110 i (by omega)).trans (f01 110 i (by omega) (by omega) (by omega)))
      have l0 : Mlw h m0 := ⟨fun b i h1 h2 => (a2 b i (by omega)).trans ((Mlw.lf hL5 f01).1 b i h1 h2), (a2 109 13 (by omega)).trans (Mlw.lf hL5 f01).2⟩
      obtain ⟨m1, e3, z3, M3, -, g3⟩ := M87 v0 r5 l0 O M0 hn 92
      have v1 : Wf rb dr jd1 m1 := v0.e z3
      obtain ⟨q1, q2⟩ := M43p v1 hk (O1.1 k hk) (M3.1 k hk) F1
      obtain ⟨m2, e4, v2, b1, b2⟩ := putM v1
      have c39b := M39 w1 hk (O.1 k hk) ((M.to (h2 := k1) (fun i => f01 110 i (by omega) (by omega) (by omega))).1 k hk)
      rw [decide_eq_true hF] at c39b
      refine ⟨nI (shT ((pas h n (D, tk, z, 0)).1 k)), k1, m2, ?_, ?_, (WMd w1).1, askRel w ⟨r3, r4, r5⟩ O C M f01 a1 a2 g3 v2 b1 b2⟩
      · rw [show DD = 99 + 1 from rfl, E9]
        simp only [bI_some, bV_some, bR_some, bL_some, ob_some, cd_t, cd_f, cd_d, okO_setI, okA_setI, okL_setI, aLen_setI, hR_setI, hI_setI, Bool.true_and, Bool.and_true, Bool.and_self, Option.isNone_some, Option.isSome_some, Option.isNone_none, Option.isSome_none, okO_chI, okA_chI, okL_chI, aLen_chI, hR_chI, ↓reduceIte, not_true_eq_false, not_false_eq_true, eq_self, c10, ↓WCb w, ↓WCb w0, ↓WCb w1, WRt w, WRt w0, WRt w1, c181, if_neg h1, if_pos hy.2, e0, e1, c181b, WD w1 hd, c146]
      · rw [show DD = 99 + 1 from rfl, E94]
        generalize pas h n (D, tk, z, 0) = Z at q1 q2 ⊢
        simp (disch := omega) only [bI_some, bV_some, bR_some, bL_some, ob_some, cd_t, cd_f, cd_d, okO_setI, okA_setI, okL_setI, aLen_setI, hR_setI, hI_setI, Bool.true_and, Bool.and_true, Bool.and_self, Option.isNone_some, Option.isSome_some, Option.isNone_none, Option.isSome_none, okO_chI, okA_chI, okL_chI, aLen_chI, hR_chI, ↓reduceIte, not_true_eq_false, not_false_eq_true, eq_self, c10, ↓WMb w1, ↓WMb v0, ↓WMb v1, WMd w1, WMd v0, WMd v1, c39b, bI1, S33, if_pos hy, e2, e3, litA, in_nI, nI_clamp, q1, q2, e4]
    · refine ⟨-1, h, h, ?_, ?_, (WMd w).1, r⟩
      · rw [show DD = 99 + 1 from rfl, E9]
        by_cases h1 : y < 0
        · simp only [bI_some, bV_some, bR_some, bL_some, ob_some, cd_t, cd_f, cd_d, okO_setI, okA_setI, okL_setI, aLen_setI, hR_setI, hI_setI, Bool.true_and, Bool.and_true, Bool.and_self, Option.isNone_some, Option.isSome_some, Option.isNone_none, Option.isSome_none, okO_chI, okA_chI, okL_chI, aLen_chI, hR_chI, ↓reduceIte, not_true_eq_false, not_false_eq_true, eq_self, c10, ↓WCb w, WRt w, c181, if_pos h1]
        · have h2 : ¬ y ≤ 240 := fun e => hy ⟨Int32.not_lt.mp h1, e⟩
          simp only [bI_some, bV_some, bR_some, bL_some, ob_some, cd_t, cd_f, cd_d, okO_setI, okA_setI, okL_setI, aLen_setI, hR_setI, hI_setI, Bool.true_and, Bool.and_true, Bool.and_self, Option.isNone_some, Option.isSome_some, Option.isNone_none, Option.isSome_none, okO_chI, okA_chI, okL_chI, aLen_chI, hR_chI, ↓reduceIte, not_true_eq_false, not_false_eq_true, eq_self, c10, ↓WCb w, WRt w, c181, if_neg h1, if_neg h2]
      · rw [show DD = 99 + 1 from rfl, E94]
        simp only [bI_some, bV_some, bR_some, bL_some, ob_some, cd_t, cd_f, cd_d, okO_setI, okA_setI, okL_setI, aLen_setI, hR_setI, hI_setI, Bool.true_and, Bool.and_true, Bool.and_self, Option.isNone_some, Option.isSome_some, Option.isNone_none, Option.isSome_none, okO_chI, okA_chI, okL_chI, aLen_chI, hR_chI, ↓reduceIte, not_true_eq_false, not_false_eq_true, eq_self, c10, WMd w, c39, bI1, S33, if_neg hy]
  · refine ⟨-1, h, h, ?_, ?_, (WMd w).1, r⟩
    · rw [show DD = 99 + 1 from rfl, E9]
      simp only [bI_some, bV_some, bR_some, bL_some, ob_some, cd_t, cd_f, cd_d, okO_setI, okA_setI, okL_setI, aLen_setI, hR_setI, hI_setI, Bool.true_and, Bool.and_true, Bool.and_self, Option.isNone_some, Option.isSome_some, Option.isNone_none, Option.isSome_none, okO_chI, okA_chI, okL_chI, aLen_chI, hR_chI, ↓reduceIte, not_true_eq_false, not_false_eq_true, eq_self, c10, WRt w, N181 w nx]
    · rw [show DD = 99 + 1 from rfl, E94]
      simp only [bI_some, bV_some, bR_some, bL_some, ob_some, cd_t, cd_f, cd_d, okO_setI, okA_setI, okL_setI, aLen_setI, hR_setI, hI_setI, Bool.true_and, Bool.and_true, Bool.and_self, Option.isNone_some, Option.isSome_some, Option.isNone_none, Option.isSome_none, okO_chI, okA_chI, okL_chI, aLen_chI, hR_chI, ↓reduceIte, not_true_eq_false, not_false_eq_true, eq_self, c10, WMd w, N39 w nx]
