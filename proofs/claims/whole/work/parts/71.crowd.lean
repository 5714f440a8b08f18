/-! words, crowd, unseen -/
def gv (F : Nat) (g : Nat → Nat) (x : Int32) : Nat := g (x.toInt % (F : Int)).toNat
theorem Gp_gv (F : Nat) (g : Nat → Nat) (x : Int32) : Gp F g x = nI (gv F g x) := rfl
theorem Dq.gv {h : rz_H} {k F : Nat} {g : Nat → Nat} (q : Dq h k F g) (x : Int32) : gv F g x ≤ 16 := q.le x.toInt
theorem Gp_16 {h : rz_H} {k F : Nat} {g : Nat → Nat} (q : Dq h k F g) (x : Int32) : Gp F g x = 16 ↔ gv F g x = 16 := by
  have := q.gv x
  exact nI_eq (a := gv F g x) (b := 16) (by omega) (by omega)
def ngp (F : Nat) (g : Nat → Nat) (i L : Nat) : Bool := decide (∀ t, t < L → ¬ gv F g (nI (i + t)) = 16)
def nol (F : Nat) (g : Nat → Nat) (i L : Nat) : Bool := decide (∀ j, j < i → ¬ ∀ t, t < L → Gp F g (nI (i + t)) = Gp F g (nI (j + t)))
def nwd (F : Nat) (g : Nat → Nat) (wg : Bool) (L i : Nat) : Bool := (wg || ngp F g i L) && nol F g i L
theorem Q263 {rb dr : Nat} {jd : Option Nat} {h : rz_H} (w : Wf rb dr jd h) {k F : Nat} {g : Nat → Nat} (q : Dq h k F g) (d i L : Nat) (hL : L ≤ 16) : cW (d + 3) 263 [rz_r (some (5 + 3 * k)), rz_i (nI i), rz_i (nI L)] h = some (rz_i (bI1 (!ngp F g i L)), h) := by
  rw [E263]
  have key := lp_jf (τ := Unit) (fun t _ => rW (d + 2) 263 (2, (0, 0), [some (rz_r (some (5 + 3 * k))), some (rz_i (nI i)), some (rz_i (nI L)), some (rz_i (nI t))], [], h)) (fun _ => some (rz_i 1, h)) (some (rz_i 0, h)) (fun t => decide (gv F g (nI (i + t)) = 16)) L (fun t _ ht => ⟨fun hp => ?_, fun hp => ⟨(), ?_⟩⟩) (fun _ => ?_) L 0 () (by omega)
  · refine Eq.trans key ?_
    unfold ngp
    rcases hf : fst (fun t => decide (gv F g (nI (i + t)) = 16)) 0 L with _ | m
    · have : ∀ t, t < L → ¬ gv F g (nI (i + t)) = 16 := fun t ht => of_decide_eq_false (fst_none L 0 hf t (by omega) (by omega))
      rw [decide_eq_true this]; rfl
    · obtain ⟨h1, h2, h3, h4⟩ := fst_some L 0 m hf
      have : ¬ ∀ t, t < L → ¬ gv F g (nI (i + t)) = 16 := fun e => e m (by omega) (of_decide_eq_true h3)
      rw [decide_eq_false this]; rfl
  · have hp := (Gp_16 q _).mpr (of_decide_eq_true hp)
    rw [E263_2]
    simp (disch := omega) only [bI_some, bV_some, bR_some, bL_some, ob_some, cd_t, cd_f, cd_d, okO_setI, okA_setI, okL_setI, aLen_setI, hR_setI, hI_setI, Bool.true_and, Bool.and_true, Bool.and_self, Option.isNone_some, Option.isSome_some, Option.isNone_none, Option.isSome_none, okO_chI, okA_chI, okL_chI, aLen_chI, hR_chI, ↓reduceIte, not_true_eq_false, not_false_eq_true, eq_self, c10, Nat.zero_add, nI_add, litA, litB, litM, nI_mul, nI_leI, nI_ltI, nI_eq, litLe, litLe2, litLt, litLt2, litEq, litEq2, in_nI, lit_in, nI_clamp, lit_cl, if_pos, if_neg, WD w (isD_3 q.1), Q144 w q, hp]
  · have hp := fun e => of_decide_eq_false hp ((Gp_16 q _).mp e)
    rw [E263_2]
    simp (disch := omega) only [bI_some, bV_some, bR_some, bL_some, ob_some, cd_t, cd_f, cd_d, okO_setI, okA_setI, okL_setI, aLen_setI, hR_setI, hI_setI, Bool.true_and, Bool.and_true, Bool.and_self, Option.isNone_some, Option.isSome_some, Option.isNone_none, Option.isSome_none, okO_chI, okA_chI, okL_chI, aLen_chI, hR_chI, ↓reduceIte, not_true_eq_false, not_false_eq_true, eq_self, c10, Nat.zero_add, nI_add, litA, litB, litM, nI_mul, nI_leI, nI_ltI, nI_eq, litLe, litLe2, litLt, litLt2, litEq, litEq2, in_nI, lit_in, nI_clamp, lit_cl, if_pos, if_neg, WD w (isD_3 q.1), Q144 w q, hp]
  · rw [E263_2]
    simp (disch := omega) only [bI_some, bV_some, bR_some, bL_some, ob_some, cd_t, cd_f, cd_d, okO_setI, okA_setI, okL_setI, aLen_setI, hR_setI, hI_setI, Bool.true_and, Bool.and_true, Bool.and_self, Option.isNone_some, Option.isSome_some, Option.isNone_none, Option.isSome_none, okO_chI, okA_chI, okL_chI, aLen_chI, hR_chI, ↓reduceIte, not_true_eq_false, not_false_eq_true, eq_self, c10, Nat.zero_add, nI_add, litA, litB, litM, nI_mul, nI_leI, nI_ltI, nI_eq, litLe, litLe2, litLt, litLt2, litEq, litEq2, in_nI, lit_in, nI_clamp, lit_cl, if_pos, if_neg]
theorem Q116 {rb dr : Nat} {jd : Option Nat} {h : rz_H} (w : Wf rb dr jd h) {k F : Nat} {g : Nat → Nat} (q : Dq h k F g) (d i L : Nat) (hL : L ≤ 16) : cW (d + 3) 116 [rz_r (some 109), rz_i (nI k), rz_i (nI i), rz_i (nI L)] h = some (rz_i (bI1 (!ngp F g i L)), h) := by
  rw [E116]
  have key := lp_jf (τ := Unit) (fun t _ => rW (d + 2) 116 (2, (0, 0), [some (rz_r (some 109)), some (rz_i (nI k)), some (rz_i (nI i)), some (rz_i (nI L)), some (rz_i (nI t))], [], h)) (fun _ => some (rz_i 1, h)) (some (rz_i 0, h)) (fun t => decide (gv F g (nI (i + t)) = 16)) L (fun t _ ht => ⟨fun hp => ?_, fun hp => ⟨(), ?_⟩⟩) (fun _ => ?_) L 0 () (by omega)
  · refine Eq.trans key ?_
    unfold ngp
    rcases hf : fst (fun t => decide (gv F g (nI (i + t)) = 16)) 0 L with _ | m
    · have : ∀ t, t < L → ¬ gv F g (nI (i + t)) = 16 := fun t ht => of_decide_eq_false (fst_none L 0 hf t (by omega) (by omega))
      rw [decide_eq_true this]; rfl
    · obtain ⟨h1, h2, h3, h4⟩ := fst_some L 0 m hf
      have : ¬ ∀ t, t < L → ¬ gv F g (nI (i + t)) = 16 := fun e => e m (by omega) (of_decide_eq_true h3)
      rw [decide_eq_false this]; rfl
  · have hp := (Gp_16 q _).mpr (of_decide_eq_true hp)
    rw [E116_2]
    simp (disch := omega) only [bI_some, bV_some, bR_some, bL_some, ob_some, cd_t, cd_f, cd_d, okO_setI, okA_setI, okL_setI, aLen_setI, hR_setI, hI_setI, Bool.true_and, Bool.and_true, Bool.and_self, Option.isNone_some, Option.isSome_some, Option.isNone_none, Option.isSome_none, okO_chI, okA_chI, okL_chI, aLen_chI, hR_chI, ↓reduceIte, not_true_eq_false, not_false_eq_true, eq_self, c10, Nat.zero_add, nI_add, litA, litB, litM, nI_mul, nI_leI, nI_ltI, nI_eq, litLe, litLe2, litLt, litLt2, litEq, litEq2, in_nI, lit_in, nI_clamp, lit_cl, if_pos, if_neg, WMd w, Q42 w q, hp]
  · have hp := fun e => of_decide_eq_false hp ((Gp_16 q _).mp e)
    rw [E116_2]
    simp (disch := omega) only [bI_some, bV_some, bR_some, bL_some, ob_some, cd_t, cd_f, cd_d, okO_setI, okA_setI, okL_setI, aLen_setI, hR_setI, hI_setI, Bool.true_and, Bool.and_true, Bool.and_self, Option.isNone_some, Option.isSome_some, Option.isNone_none, Option.isSome_none, okO_chI, okA_chI, okL_chI, aLen_chI, hR_chI, ↓reduceIte, not_true_eq_false, not_false_eq_true, eq_self, c10, Nat.zero_add, nI_add, litA, litB, litM, nI_mul, nI_leI, nI_ltI, nI_eq, litLe, litLe2, litLt, litLt2, litEq, litEq2, in_nI, lit_in, nI_clamp, lit_cl, if_pos, if_neg, WMd w, Q42 w q, hp]
  · rw [E116_2]
    simp (disch := omega) only [bI_some, bV_some, bR_some, bL_some, ob_some, cd_t, cd_f, cd_d, okO_setI, okA_setI, okL_setI, aLen_setI, hR_setI, hI_setI, Bool.true_and, Bool.and_true, Bool.and_self, Option.isNone_some, Option.isSome_some, Option.isNone_none, Option.isSome_none, okO_chI, okA_chI, okL_chI, aLen_chI, hR_chI, ↓reduceIte, not_true_eq_false, not_false_eq_true, eq_self, c10, Nat.zero_add, nI_add, litA, litB, litM, nI_mul, nI_leI, nI_ltI, nI_eq, litLe, litLe2, litLt, litLt2, litEq, litEq2, in_nI, lit_in, nI_clamp, lit_cl, if_pos, if_neg]
theorem Q115 {rb dr : Nat} {jd : Option Nat} {h : rz_H} (w : Wf rb dr jd h) {k F : Nat} {g : Nat → Nat} (q : Dq h k F g) (d i j L : Nat) (hL : L ≤ 16) : cW (d + 3) 115 [rz_r (some 109), rz_i (nI k), rz_i (nI i), rz_i (nI j), rz_i (nI L)] h = some (rz_i (bI1 (decide (∀ t, t < L → Gp F g (nI (i + t)) = Gp F g (nI (j + t))))), h) := by
  rw [E115]
  have key := lp_jf (τ := Unit) (fun t _ => rW (d + 2) 115 (2, (0, 0), [some (rz_r (some 109)), some (rz_i (nI k)), some (rz_i (nI i)), some (rz_i (nI j)), some (rz_i (nI L)), some (rz_i (nI t))], [], h)) (fun _ => some (rz_i 0, h)) (some (rz_i 1, h)) (fun t => !decide (Gp F g (nI (i + t)) = Gp F g (nI (j + t)))) L (fun t _ ht => ⟨fun hp => ?_, fun hp => ⟨(), ?_⟩⟩) (fun _ => ?_) L 0 () (by omega)
  · refine Eq.trans key ?_
    rcases hf : fst (fun t => !decide (Gp F g (nI (i + t)) = Gp F g (nI (j + t)))) 0 L with _ | m
    · have : ∀ t, t < L → Gp F g (nI (i + t)) = Gp F g (nI (j + t)) := fun t ht => by
        have := fst_none L 0 hf t (by omega) (by omega)
        simpa using this
      rw [decide_eq_true this]; rfl
    · obtain ⟨h1, h2, h3, h4⟩ := fst_some L 0 m hf
      have : ¬ ∀ t, t < L → Gp F g (nI (i + t)) = Gp F g (nI (j + t)) := fun e => by simp [e m (by omega)] at h3
      rw [decide_eq_false this]; rfl
  · have hp : ¬ Gp F g (nI (i + t)) = Gp F g (nI (j + t)) := by simpa using hp
    rw [E115_2]
    simp (disch := omega) only [bI_some, bV_some, bR_some, bL_some, ob_some, cd_t, cd_f, cd_d, okO_setI, okA_setI, okL_setI, aLen_setI, hR_setI, hI_setI, Bool.true_and, Bool.and_true, Bool.and_self, Option.isNone_some, Option.isSome_some, Option.isNone_none, Option.isSome_none, okO_chI, okA_chI, okL_chI, aLen_chI, hR_chI, ↓reduceIte, not_true_eq_false, not_false_eq_true, eq_self, c10, Nat.zero_add, nI_add, litA, litB, litM, nI_mul, nI_leI, nI_ltI, nI_eq, litLe, litLe2, litLt, litLt2, litEq, litEq2, in_nI, lit_in, nI_clamp, lit_cl, if_pos, if_neg, WMd w, Q42 w q, hp]
  · have hp : Gp F g (nI (i + t)) = Gp F g (nI (j + t)) := by simpa using hp
    rw [E115_2]
    simp (disch := omega) only [bI_some, bV_some, bR_some, bL_some, ob_some, cd_t, cd_f, cd_d, okO_setI, okA_setI, okL_setI, aLen_setI, hR_setI, hI_setI, Bool.true_and, Bool.and_true, Bool.and_self, Option.isNone_some, Option.isSome_some, Option.isNone_none, Option.isSome_none, okO_chI, okA_chI, okL_chI, aLen_chI, hR_chI, ↓reduceIte, not_true_eq_false, not_false_eq_true, eq_self, c10, Nat.zero_add, nI_add, litA, litB, litM, nI_mul, nI_leI, nI_ltI, nI_eq, litLe, litLe2, litLt, litLt2, litEq, litEq2, in_nI, lit_in, nI_clamp, lit_cl, if_pos, if_neg, WMd w, Q42 w q, hp]
  · rw [E115_2]
    simp (disch := omega) only [bI_some, bV_some, bR_some, bL_some, ob_some, cd_t, cd_f, cd_d, okO_setI, okA_setI, okL_setI, aLen_setI, hR_setI, hI_setI, Bool.true_and, Bool.and_true, Bool.and_self, Option.isNone_some, Option.isSome_some, Option.isNone_none, Option.isSome_none, okO_chI, okA_chI, okL_chI, aLen_chI, hR_chI, ↓reduceIte, not_true_eq_false, not_false_eq_true, eq_self, c10, Nat.zero_add, nI_add, litA, litB, litM, nI_mul, nI_leI, nI_ltI, nI_eq, litLe, litLe2, litLt, litLt2, litEq, litEq2, in_nI, lit_in, nI_clamp, lit_cl, if_pos, if_neg]
/-- the class's inner loop -/
theorem Q262i {rb dr : Nat} {jd : Option Nat} {h : rz_H} (w : Wf rb dr jd h) {k F : Nat} {g : Nat → Nat} (q : Dq h k F g) (d i L u : Nat) (hi : i ≤ 16) (hL : L ≤ 16) (x2 : Int32) (b : Bool) : ∃ j : Option rz_V × Option rz_V, rW (d + 3) 262 (21, (0, 0), [some (rz_r (some (5 + 3 * k))), some (rz_i (nI L)), some (rz_i x2), some (rz_i (nI u)), some (rz_i (nI i)), some (rz_i (bI1 b)), some (rz_i (nI 0))], [], h) = rW (d + 3) 262 (4, (0, 0), [some (rz_r (some (5 + 3 * k))), some (rz_i (nI L)), some (rz_i x2), some (rz_i (nI (if (b && nol F g i L) = true then u + 1 else u))), some (rz_i (nI (i + 1))), j.1, j.2], [], h) := by
  have fin : ∀ m, ∃ j : Option rz_V × Option rz_V, rW (d + 3) 262 (21, (0, 0), [some (rz_r (some (5 + 3 * k))), some (rz_i (nI L)), some (rz_i x2), some (rz_i (nI u)), some (rz_i (nI i)), some (rz_i 0), some (rz_i (nI m))], [], h) = rW (d + 3) 262 (4, (0, 0), [some (rz_r (some (5 + 3 * k))), some (rz_i (nI L)), some (rz_i x2), some (rz_i (nI u)), some (rz_i (nI (i + 1))), j.1, j.2], [], h) := fun m => ⟨(some (rz_i 0), some (rz_i (nI m))), by
    rw [E262_21]
    by_cases hm : nI i ≤ nI m <;> simp only [bI_some, bV_some, bR_some, bL_some, ob_some, cd_t, cd_f, cd_d, okO_setI, okA_setI, okL_setI, aLen_setI, hR_setI, hI_setI, Bool.true_and, Bool.and_true, Bool.and_self, Option.isNone_some, Option.isSome_some, Option.isNone_none, Option.isSome_none, okO_chI, okA_chI, okL_chI, aLen_chI, hR_chI, ↓reduceIte, not_true_eq_false, not_false_eq_true, eq_self, c10, nI_1, hm, Int32.add_zero]⟩
  cases b with
  | false =>
    obtain ⟨j, e⟩ := fin 0
    exact ⟨j, e⟩
  | true =>
    have stp : ∀ m, m < i → rW (d + 3) 262 (21, (0, 0), [some (rz_r (some (5 + 3 * k))), some (rz_i (nI L)), some (rz_i x2), some (rz_i (nI u)), some (rz_i (nI i)), some (rz_i 1), some (rz_i (nI m))], [], h) = rW (d + 3) 262 (21, (0, 0), [some (rz_r (some (5 + 3 * k))), some (rz_i (nI L)), some (rz_i x2), some (rz_i (nI u)), some (rz_i (nI i)), some (rz_i (bI1 (!decide (∀ t, t < L → Gp F g (nI (i + t)) = Gp F g (nI (m + t)))))), some (rz_i (nI (m + 1)))], [], h) := fun m hm => by
      have hl := lke_le (Gp F g) (Gp F g) i m L
      rw [E262_21]
      by_cases ha : ∀ t, t < L → Gp F g (nI (i + t)) = Gp F g (nI (m + t))
      · have := lke_all.mpr ha
        simp (disch := omega) only [bI_some, bV_some, bR_some, bL_some, ob_some, cd_t, cd_f, cd_d, okO_setI, okA_setI, okL_setI, aLen_setI, hR_setI, hI_setI, Bool.true_and, Bool.and_true, Bool.and_self, Option.isNone_some, Option.isSome_some, Option.isNone_none, Option.isSome_none, okO_chI, okA_chI, okL_chI, aLen_chI, hR_chI, ↓reduceIte, not_true_eq_false, not_false_eq_true, eq_self, c10, Nat.zero_add, nI_add, litA, litB, litM, nI_mul, nI_leI, nI_ltI, nI_eq, litLe, litLe2, litLt, litLt2, litEq, litEq2, in_nI, lit_in, nI_clamp, lit_cl, if_pos, if_neg, Q254 w q q, this, bI1, decide_eq_true ha, Bool.not_true, Bool.false_eq_true]
      · have : lke (Gp F g) (Gp F g) i m L < L := Nat.lt_of_le_of_ne hl (fun e => ha (lke_all.mp e))
        simp (disch := omega) only [bI_some, bV_some, bR_some, bL_some, ob_some, cd_t, cd_f, cd_d, okO_setI, okA_setI, okL_setI, aLen_setI, hR_setI, hI_setI, Bool.true_and, Bool.and_true, Bool.and_self, Option.isNone_some, Option.isSome_some, Option.isNone_none, Option.isSome_none, okO_chI, okA_chI, okL_chI, aLen_chI, hR_chI, ↓reduceIte, not_true_eq_false, not_false_eq_true, eq_self, c10, Nat.zero_add, nI_add, litA, litB, litM, nI_mul, nI_leI, nI_ltI, nI_eq, litLe, litLe2, litLt, litLt2, litEq, litEq2, in_nI, lit_in, nI_clamp, lit_cl, if_pos, if_neg, Q254 w q q, bI1, decide_eq_false ha, Bool.not_false]
    rcases hf : fst (fun m => decide (∀ t, t < L → Gp F g (nI (i + t)) = Gp F g (nI (m + t)))) 0 i with _ | m
    · have ha : ∀ m, m < i → ¬ ∀ t, t < L → Gp F g (nI (i + t)) = Gp F g (nI (m + t)) := fun m hm => of_decide_eq_false (fst_none i 0 hf m (by omega) (by omega))
      have e := lp_u (fun m => rW (d + 3) 262 (21, (0, 0), [some (rz_r (some (5 + 3 * k))), some (rz_i (nI L)), some (rz_i x2), some (rz_i (nI u)), some (rz_i (nI i)), some (rz_i 1), some (rz_i (nI m))], [], h)) i (fun m hm => by
        show rW (d + 3) 262 (21, (0, 0), [some (rz_r (some (5 + 3 * k))), some (rz_i (nI L)), some (rz_i x2), some (rz_i (nI u)), some (rz_i (nI i)), some (rz_i 1), some (rz_i (nI m))], [], h) = _
        rw [stp m hm, decide_eq_false (ha m hm)]; rfl)
      refine ⟨(some (rz_i 1), some (rz_i (nI i))), Eq.trans e ?_⟩
      rw [E262_21]
      have : nol F g i L = true := decide_eq_true ha
      simp (disch := omega) only [bI_some, bV_some, bR_some, bL_some, ob_some, cd_t, cd_f, cd_d, okO_setI, okA_setI, okL_setI, aLen_setI, hR_setI, hI_setI, Bool.true_and, Bool.and_true, Bool.and_self, Option.isNone_some, Option.isSome_some, Option.isNone_none, Option.isSome_none, okO_chI, okA_chI, okL_chI, aLen_chI, hR_chI, ↓reduceIte, not_true_eq_false, not_false_eq_true, eq_self, c10, Nat.zero_add, nI_add, litA, litB, litM, nI_mul, nI_leI, nI_ltI, nI_eq, litLe, litLe2, litLt, litLt2, litEq, litEq2, in_nI, lit_in, nI_clamp, lit_cl, if_pos, if_neg, this]
    · obtain ⟨h1, h2, h3, h4⟩ := fst_some i 0 m hf
      have h3 := of_decide_eq_true h3
      have e := lp_u (fun m => rW (d + 3) 262 (21, (0, 0), [some (rz_r (some (5 + 3 * k))), some (rz_i (nI L)), some (rz_i x2), some (rz_i (nI u)), some (rz_i (nI i)), some (rz_i 1), some (rz_i (nI m))], [], h)) m (fun n hn => by
        show rW (d + 3) 262 (21, (0, 0), [some (rz_r (some (5 + 3 * k))), some (rz_i (nI L)), some (rz_i x2), some (rz_i (nI u)), some (rz_i (nI i)), some (rz_i 1), some (rz_i (nI n))], [], h) = _
        rw [stp n (by omega), h4 n (by omega) hn]; rfl)
      obtain ⟨j, e2⟩ := fin (m + 1)
      refine ⟨j, Eq.trans e ?_⟩
      have : nol F g i L = false := decide_eq_false (fun e => e m (by omega) h3)
      rw [this, stp m (by omega), decide_eq_true h3]
      exact e2
theorem Q262 {rb dr : Nat} {jd : Option Nat} {h : rz_H} (w : Wf rb dr jd h) {k F : Nat} {g : Nat → Nat} (q : Dq h k F g) (d L : Nat) (hL : L ≤ 16) (wg : Bool) : cW (d + 4) 262 [rz_r (some (5 + 3 * k)), rz_i (nI L), rz_i (bI1 wg)] h = some (rz_i (nI (cnt (nwd F g wg L) F)), h) := by
  have hF := q.2.2.1
  rw [E262]
  refine lp_j (fun i u j => rW (d + 3) 262 (4, (0, 0), [some (rz_r (some (5 + 3 * k))), some (rz_i (nI L)), some (rz_i (bI1 wg)), some (rz_i (nI u)), some (rz_i (nI i)), j.1, j.2], [], h)) (fun u => some (rz_i (nI u), h)) (fun i u => if nwd F g wg L i = true then u + 1 else u) F (fun i u j hi => ?_) (fun u j => ?_) F 0 0 (none, none) (by omega)
  · obtain ⟨j2, e⟩ := Q262i w q d i L u (by omega) hL (bI1 wg) (wg || ngp F g i L)
    refine ⟨j2, Eq.trans ?_ e⟩
    rw [E262_4]
    cases wg with
    | true => simp (disch := omega) only [bI_some, bV_some, bR_some, bL_some, ob_some, cd_t, cd_f, cd_d, okO_setI, okA_setI, okL_setI, aLen_setI, hR_setI, hI_setI, Bool.true_and, Bool.and_true, Bool.and_self, Option.isNone_some, Option.isSome_some, Option.isNone_none, Option.isSome_none, okO_chI, okA_chI, okL_chI, aLen_chI, hR_chI, ↓reduceIte, not_true_eq_false, not_false_eq_true, eq_self, c10, Nat.zero_add, nI_add, litA, litB, litM, nI_mul, nI_leI, nI_ltI, nI_eq, litLe, litLe2, litLt, litLt2, litEq, litEq2, in_nI, lit_in, nI_clamp, lit_cl, if_pos, if_neg, WD w (isD_3 q.1), Q136 w q, bI1, Bool.true_or]; rfl
    | false =>
      simp (disch := omega) only [bI_some, bV_some, bR_some, bL_some, ob_some, cd_t, cd_f, cd_d, okO_setI, okA_setI, okL_setI, aLen_setI, hR_setI, hI_setI, Bool.true_and, Bool.and_true, Bool.and_self, Option.isNone_some, Option.isSome_some, Option.isNone_none, Option.isSome_none, okO_chI, okA_chI, okL_chI, aLen_chI, hR_chI, ↓reduceIte, not_true_eq_false, not_false_eq_true, eq_self, c10, Nat.zero_add, nI_add, litA, litB, litM, nI_mul, nI_leI, nI_ltI, nI_eq, litLe, litLe2, litLt, litLt2, litEq, litEq2, in_nI, lit_in, nI_clamp, lit_cl, if_pos, if_neg, WD w (isD_3 q.1), Q136 w q, bI1, Bool.false_or, Bool.false_eq_true, Q263 w q]
      cases ngp F g i L <;> rfl
  · rw [E262_4]
    simp (disch := omega) only [bI_some, bV_some, bR_some, bL_some, ob_some, cd_t, cd_f, cd_d, okO_setI, okA_setI, okL_setI, aLen_setI, hR_setI, hI_setI, Bool.true_and, Bool.and_true, Bool.and_self, Option.isNone_some, Option.isSome_some, Option.isNone_none, Option.isSome_none, okO_chI, okA_chI, okL_chI, aLen_chI, hR_chI, ↓reduceIte, not_true_eq_false, not_false_eq_true, eq_self, c10, Nat.zero_add, nI_add, litA, litB, litM, nI_mul, nI_leI, nI_ltI, nI_eq, litLe, litLe2, litLt, litLt2, litEq, litEq2, in_nI, lit_in, nI_clamp, lit_cl, if_pos, if_neg, WD w (isD_3 q.1), Q136 w q]
theorem Q117 {rb dr : Nat} {jd : Option Nat} {h : rz_H} (w : Wf rb dr jd h) {k F : Nat} {g : Nat → Nat} (q : Dq h k F g) (d L : Nat) (hL : L ≤ 16) (wg : Bool) : cW (d + 4) 117 [rz_r (some 109), rz_i (nI k), rz_i (nI L), rz_i (bI1 (!wg))] h = some (rz_i (nI (cnt (nwd F g wg L) F)), h) := by
  have hF := q.2.2.1
  rw [E117]
  refine lp_j (fun i u j => rW (d + 3) 117 (4, (0, 0), [some (rz_r (some 109)), some (rz_i (nI k)), some (rz_i (nI L)), some (rz_i (bI1 (!wg))), some (rz_i (nI u)), some (rz_i (nI i)), j.1, j.2], [], h)) (fun u => some (rz_i (nI u), h)) (fun i u => if nwd F g wg L i = true then u + 1 else u) F (fun i u j hi => ?_) (fun u j => ?_) F 0 0 (none, none) (by omega)
  · have e1 : rW (d + 3) 117 (4, (0, 0), [some (rz_r (some 109)), some (rz_i (nI k)), some (rz_i (nI L)), some (rz_i (bI1 (!wg))), some (rz_i (nI u)), some (rz_i (nI i)), j.1, j.2], [], h) = rW (d + 3) 117 (23, (0, 0), [some (rz_r (some 109)), some (rz_i (nI k)), some (rz_i (nI L)), some (rz_i (bI1 (!wg))), some (rz_i (nI u)), some (rz_i (nI i)), some (rz_i (bI1 (wg || ngp F g i L))), some (rz_i (nI 0))], [], h) := by
      rw [E117_4]
      cases wg with
      | true => simp (disch := omega) only [bI_some, bV_some, bR_some, bL_some, ob_some, cd_t, cd_f, cd_d, okO_setI, okA_setI, okL_setI, aLen_setI, hR_setI, hI_setI, Bool.true_and, Bool.and_true, Bool.and_self, Option.isNone_some, Option.isSome_some, Option.isNone_none, Option.isSome_none, okO_chI, okA_chI, okL_chI, aLen_chI, hR_chI, ↓reduceIte, not_true_eq_false, not_false_eq_true, eq_self, c10, Nat.zero_add, nI_add, litA, litB, litM, nI_mul, nI_leI, nI_ltI, nI_eq, litLe, litLe2, litLt, litLt2, litEq, litEq2, in_nI, lit_in, nI_clamp, lit_cl, if_pos, if_neg, WMd w, Q41 w q, bI1, Bool.true_or, Bool.not_true, Bool.false_eq_true]; rfl
      | false =>
        simp (disch := omega) only [bI_some, bV_some, bR_some, bL_some, ob_some, cd_t, cd_f, cd_d, okO_setI, okA_setI, okL_setI, aLen_setI, hR_setI, hI_setI, Bool.true_and, Bool.and_true, Bool.and_self, Option.isNone_some, Option.isSome_some, Option.isNone_none, Option.isSome_none, okO_chI, okA_chI, okL_chI, aLen_chI, hR_chI, ↓reduceIte, not_true_eq_false, not_false_eq_true, eq_self, c10, Nat.zero_add, nI_add, litA, litB, litM, nI_mul, nI_leI, nI_ltI, nI_eq, litLe, litLe2, litLt, litLt2, litEq, litEq2, in_nI, lit_in, nI_clamp, lit_cl, if_pos, if_neg, WMd w, Q41 w q, bI1, Bool.false_or, Bool.not_false, Q116 w q]
        cases ngp F g i L <;> rfl
    have e2 := lp_i0 (fun m b => rW (d + 3) 117 (23, (0, 0), [some (rz_r (some 109)), some (rz_i (nI k)), some (rz_i (nI L)), some (rz_i (bI1 (!wg))), some (rz_i (nI u)), some (rz_i (nI i)), some (rz_i (bI1 b)), some (rz_i (nI m))], [], h)) (fun m b => if (!decide (∀ t, t < L → Gp F g (nI (i + t)) = Gp F g (nI (m + t)))) = true then b else false) i (wg || ngp F g i L) (fun m b hm => by
      show rW (d + 3) 117 (23, (0, 0), [some (rz_r (some 109)), some (rz_i (nI k)), some (rz_i (nI L)), some (rz_i (bI1 (!wg))), some (rz_i (nI u)), some (rz_i (nI i)), some (rz_i (bI1 b)), some (rz_i (nI m))], [], h) = _
      rw [E117_23]
      by_cases ha : ∀ t, t < L → Gp F g (nI (i + t)) = Gp F g (nI (m + t))
      · simp (disch := omega) only [bI_some, bV_some, bR_some, bL_some, ob_some, cd_t, cd_f, cd_d, okO_setI, okA_setI, okL_setI, aLen_setI, hR_setI, hI_setI, Bool.true_and, Bool.and_true, Bool.and_self, Option.isNone_some, Option.isSome_some, Option.isNone_none, Option.isSome_none, okO_chI, okA_chI, okL_chI, aLen_chI, hR_chI, ↓reduceIte, not_true_eq_false, not_false_eq_true, eq_self, c10, Nat.zero_add, nI_add, litA, litB, litM, nI_mul, nI_leI, nI_ltI, nI_eq, litLe, litLe2, litLt, litLt2, litEq, litEq2, in_nI, lit_in, nI_clamp, lit_cl, if_pos, if_neg, WMd w, Q115 w q, decide_eq_true ha, Bool.not_true, Bool.false_eq_true, bI1]
      · simp (disch := omega) only [bI_some, bV_some, bR_some, bL_some, ob_some, cd_t, cd_f, cd_d, okO_setI, okA_setI, okL_setI, aLen_setI, hR_setI, hI_setI, Bool.true_and, Bool.and_true, Bool.and_self, Option.isNone_some, Option.isSome_some, Option.isNone_none, Option.isSome_none, okO_chI, okA_chI, okL_chI, aLen_chI, hR_chI, ↓reduceIte, not_true_eq_false, not_false_eq_true, eq_self, c10, Nat.zero_add, nI_add, litA, litB, litM, nI_mul, nI_leI, nI_ltI, nI_eq, litLe, litLe2, litLt, litLt2, litEq, litEq2, in_nI, lit_in, nI_clamp, lit_cl, if_pos, if_neg, WMd w, Q115 w q, decide_eq_false ha, Bool.not_false, Bool.false_eq_true, bI1])
    have e3 : ∀ (b : Bool) (n : Nat), itr (fun m b => if (!decide (∀ t, t < L → Gp F g (nI (i + t)) = Gp F g (nI (m + t)))) = true then b else false) 0 n b = (b && decide (∀ m, m < n → ¬ ∀ t, t < L → Gp F g (nI (i + t)) = Gp F g (nI (m + t)))) := by
      intro b n
      induction n with
      | zero => simp [itr]
      | succ n ih =>
        rw [itr_succ, ih, Nat.zero_add]
        by_cases ha : ∀ t, t < L → Gp F g (nI (i + t)) = Gp F g (nI (n + t))
        · rw [decide_eq_true ha, decide_eq_false (show ¬ ∀ m, m < n + 1 → ¬ ∀ t, t < L → Gp F g (nI (i + t)) = Gp F g (nI (m + t)) from fun e => e n (by omega) ha)]; simp
        · rw [decide_eq_false ha]
          by_cases hb : ∀ m, m < n → ¬ ∀ t, t < L → Gp F g (nI (i + t)) = Gp F g (nI (m + t))
          · rw [decide_eq_true hb, decide_eq_true (fun m hm => by
              by_cases e : m = n
              · rw [e]; exact ha
              · exact hb m (by omega))]; simp
          · rw [decide_eq_false hb, decide_eq_false (fun e => hb (fun m hm => e m (by omega)))]; simp
    rw [e1]
    refine ⟨(some (rz_i (bI1 (nwd F g wg L i))), some (rz_i (nI i))), Eq.trans e2 ?_⟩
    rw [e3, show ((wg || ngp F g i L) && decide (∀ m, m < i → ¬ ∀ t, t < L → Gp F g (nI (i + t)) = Gp F g (nI (m + t)))) = nwd F g wg L i from rfl, E117_23]
    cases nwd F g wg L i <;> simp (disch := omega) only [bI_some, bV_some, bR_some, bL_some, ob_some, cd_t, cd_f, cd_d, okO_setI, okA_setI, okL_setI, aLen_setI, hR_setI, hI_setI, Bool.true_and, Bool.and_true, Bool.and_self, Option.isNone_some, Option.isSome_some, Option.isNone_none, Option.isSome_none, okO_chI, okA_chI, okL_chI, aLen_chI, hR_chI, ↓reduceIte, not_true_eq_false, not_false_eq_true, eq_self, c10, Nat.zero_add, nI_add, litA, litB, litM, nI_mul, nI_leI, nI_ltI, nI_eq, litLe, litLe2, litLt, litLt2, litEq, litEq2, in_nI, lit_in, nI_clamp, lit_cl, if_pos, if_neg, bI1, Bool.false_eq_true]
  · rw [E117_4]
    simp (disch := omega) only [bI_some, bV_some, bR_some, bL_some, ob_some, cd_t, cd_f, cd_d, okO_setI, okA_setI, okL_setI, aLen_setI, hR_setI, hI_setI, Bool.true_and, Bool.and_true, Bool.and_self, Option.isNone_some, Option.isSome_some, Option.isNone_none, Option.isSome_none, okO_chI, okA_chI, okL_chI, aLen_chI, hR_chI, ↓reduceIte, not_true_eq_false, not_false_eq_true, eq_self, c10, Nat.zero_add, nI_add, litA, litB, litM, nI_mul, nI_leI, nI_ltI, nI_eq, litLe, litLe2, litLt, litLt2, litEq, litEq2, in_nI, lit_in, nI_clamp, lit_cl, if_pos, if_neg, WMd w, Q41 w q]
theorem P20 (x y : Int32) : Pr Rel 20 118 [rz_i x, rz_i y] := by
  intro h r
  obtain ⟨rb, dr, jd, w, r1, r2, r3, r4, r5⟩ := id r
  rcases tld r1 r2 x with ⟨k, F, g, rfl, q⟩ | n
  · by_cases hy : 1 ≤ y ∧ y ≤ 16
    · obtain ⟨L, hL, rfl⟩ := nI_of2 (x := y) (M := 16) (n := 16) rfl (Int32.not_lt.mpr (Int32.le_trans (by decide) hy.1)) hy.2
      have h1 := Int32.not_lt.mpr hy.1
      have h2 := hy.2
      refine ⟨nI (cnt (nwd F g true L) F), h, h, ?_, ?_, (WMd w).1, r⟩
      · rw [show DD = 99 + 1 from rfl, E20]
        simp only [bI_some, bV_some, bR_some, bL_some, ob_some, cd_t, cd_f, cd_d, okO_setI, okA_setI, okL_setI, aLen_setI, hR_setI, hI_setI, Bool.true_and, Bool.and_true, Bool.and_self, Option.isNone_some, Option.isSome_some, Option.isNone_none, Option.isSome_none, okO_chI, okA_chI, okL_chI, aLen_chI, hR_chI, ↓reduceIte, not_true_eq_false, not_false_eq_true, eq_self, c10, WRt w, Q181 w q, if_neg h1, if_pos h2]
        rw [show (1 : Int32) = bI1 true from rfl, Q262 w q 95 L hL true]
        simp only [bI_some, bV_some, bR_some, bL_some, ob_some, cd_t, cd_f, cd_d, okO_setI, okA_setI, okL_setI, aLen_setI, hR_setI, hI_setI, Bool.true_and, Bool.and_true, Bool.and_self, Option.isNone_some, Option.isSome_some, Option.isNone_none, Option.isSome_none, okO_chI, okA_chI, okL_chI, aLen_chI, hR_chI, ↓reduceIte, not_true_eq_false, not_false_eq_true, eq_self, c10]
      · rw [show DD = 99 + 1 from rfl, E118]
        simp only [bI_some, bV_some, bR_some, bL_some, ob_some, cd_t, cd_f, cd_d, okO_setI, okA_setI, okL_setI, aLen_setI, hR_setI, hI_setI, Bool.true_and, Bool.and_true, Bool.and_self, Option.isNone_some, Option.isSome_some, Option.isNone_none, Option.isSome_none, okO_chI, okA_chI, okL_chI, aLen_chI, hR_chI, ↓reduceIte, not_true_eq_false, not_false_eq_true, eq_self, c10, WMd w, Q39 w q, S33, if_pos hy]
        rw [show (0 : Int32) = bI1 (!true) from rfl, Q117 w q 95 L hL true]
        simp only [bI_some, bV_some, bR_some, bL_some, ob_some, cd_t, cd_f, cd_d, okO_setI, okA_setI, okL_setI, aLen_setI, hR_setI, hI_setI, Bool.true_and, Bool.and_true, Bool.and_self, Option.isNone_some, Option.isSome_some, Option.isNone_none, Option.isSome_none, okO_chI, okA_chI, okL_chI, aLen_chI, hR_chI, ↓reduceIte, not_true_eq_false, not_false_eq_true, eq_self, c10]
    · refine ⟨-1, h, h, ?_, ?_, (WMd w).1, r⟩
      · rw [show DD = 99 + 1 from rfl, E20]
        by_cases h1 : y < 1
        · simp only [bI_some, bV_some, bR_some, bL_some, ob_some, cd_t, cd_f, cd_d, okO_setI, okA_setI, okL_setI, aLen_setI, hR_setI, hI_setI, Bool.true_and, Bool.and_true, Bool.and_self, Option.isNone_some, Option.isSome_some, Option.isNone_none, Option.isSome_none, okO_chI, okA_chI, okL_chI, aLen_chI, hR_chI, ↓reduceIte, not_true_eq_false, not_false_eq_true, eq_self, c10, WRt w, Q181 w q, if_pos h1]
        · have h2 : ¬ y ≤ 16 := fun e => hy ⟨Int32.not_lt.mp h1, e⟩
          simp only [bI_some, bV_some, bR_some, bL_some, ob_some, cd_t, cd_f, cd_d, okO_setI, okA_setI, okL_setI, aLen_setI, hR_setI, hI_setI, Bool.true_and, Bool.and_true, Bool.and_self, Option.isNone_some, Option.isSome_some, Option.isNone_none, Option.isSome_none, okO_chI, okA_chI, okL_chI, aLen_chI, hR_chI, ↓reduceIte, not_true_eq_false, not_false_eq_true, eq_self, c10, WRt w, Q181 w q, if_neg h1, if_neg h2]
      · rw [show DD = 99 + 1 from rfl, E118]
        simp only [bI_some, bV_some, bR_some, bL_some, ob_some, cd_t, cd_f, cd_d, okO_setI, okA_setI, okL_setI, aLen_setI, hR_setI, hI_setI, Bool.true_and, Bool.and_true, Bool.and_self, Option.isNone_some, Option.isSome_some, Option.isNone_none, Option.isSome_none, okO_chI, okA_chI, okL_chI, aLen_chI, hR_chI, ↓reduceIte, not_true_eq_false, not_false_eq_true, eq_self, c10, WMd w, Q39 w q, S33, if_neg hy]
  · refine ⟨-1, h, h, ?_, ?_, (WMd w).1, r⟩
    · rw [show DD = 99 + 1 from rfl, E20]
      simp only [bI_some, bV_some, bR_some, bL_some, ob_some, cd_t, cd_f, cd_d, okO_setI, okA_setI, okL_setI, aLen_setI, hR_setI, hI_setI, Bool.true_and, Bool.and_true, Bool.and_self, Option.isNone_some, Option.isSome_some, Option.isNone_none, Option.isSome_none, okO_chI, okA_chI, okL_chI, aLen_chI, hR_chI, ↓reduceIte, not_true_eq_false, not_false_eq_true, eq_self, c10, WRt w, N181 w n]
    · rw [show DD = 99 + 1 from rfl, E118]
      simp only [bI_some, bV_some, bR_some, bL_some, ob_some, cd_t, cd_f, cd_d, okO_setI, okA_setI, okL_setI, aLen_setI, hR_setI, hI_setI, Bool.true_and, Bool.and_true, Bool.and_self, Option.isNone_some, Option.isSome_some, Option.isNone_none, Option.isSome_none, okO_chI, okA_chI, okL_chI, aLen_chI, hR_chI, ↓reduceIte, not_true_eq_false, not_false_eq_true, eq_self, c10, WMd w, N39 w n]
/-! pictures of a drum, and what eyes see of it -/
def stp (F : Nat) (g : Nat → Nat) (p : Nat → Bool) (u : Nat → Int32) (i s : Nat) : Nat := if p i = true ∧ ¬ gv F g (u i) = 16 then s ||| 2 ^ gv F g (u i) else s
def pst (F : Nat) (g : Nat → Nat) (p : Nat → Bool) (u : Nat → Int32) : Nat := itr (stp F g p u) 0 F 0
theorem pst_lt {h : rz_H} {k F : Nat} {g : Nat → Nat} (q : Dq h k F g) (p : Nat → Bool) (u : Nat → Int32) : pst F g p u < 65536 := by
  unfold pst
  refine itr_inv (fun s => s < 65536) F 0 0 (fun j t ht => ?_) (by omega)
  unfold stp
  have := q.gv (u j)
  split
  · exact or_lt ht (pw_lt (by omega))
  · exact ht
theorem Q260 {rb dr : Nat} {jd : Option Nat} {h : rz_H} (w : Wf rb dr jd h) {k F : Nat} {g : Nat → Nat} (q : Dq h k F g) (d : Nat) : cW (d + 3) 260 [rz_r (some (5 + 3 * k))] h = some (rz_i (nI (pst F g (fun _ => true) nI)), h) := by
  have hF := q.2.2.1
  rw [E260]
  refine Eq.trans (lp_i0 (fun i s => rW (d + 2) 260 (4, (0, 0), [some (rz_r (some (5 + 3 * k))), some (rz_i (nI s)), some (rz_i (nI i))], [], h)) (stp F g (fun _ => true) nI) F 0 (fun i s hi => ?_)) ?_
  · have hg := q.gv (nI i)
    rw [E260_4]
    unfold stp
    by_cases h16 : gv F g (nI i) = 16 <;> simp (disch := omega) only [bI_some, bV_some, bR_some, bL_some, ob_some, cd_t, cd_f, cd_d, okO_setI, okA_setI, okL_setI, aLen_setI, hR_setI, hI_setI, Bool.true_and, Bool.and_true, Bool.and_self, Option.isNone_some, Option.isSome_some, Option.isNone_none, Option.isSome_none, okO_chI, okA_chI, okL_chI, aLen_chI, hR_chI, ↓reduceIte, not_true_eq_false, not_false_eq_true, eq_self, c10, Nat.zero_add, nI_add, litA, litB, litM, nI_mul, nI_leI, nI_ltI, nI_eq, litLe, litLe2, litLt, litLt2, litEq, litEq2, in_nI, lit_in, nI_clamp, lit_cl, if_pos, if_neg, WD w (isD_3 q.1), Q136 w q, Q144 w q, Gp_gv, bit_nI, nI_or, h16, true_and, show nI s ||| (0 : Int32) = nI s from Int32.or_zero, and_false]
  · rw [E260_4]
    simp (disch := omega) only [bI_some, bV_some, bR_some, bL_some, ob_some, cd_t, cd_f, cd_d, okO_setI, okA_setI, okL_setI, aLen_setI, hR_setI, hI_setI, Bool.true_and, Bool.and_true, Bool.and_self, Option.isNone_some, Option.isSome_some, Option.isNone_none, Option.isSome_none, okO_chI, okA_chI, okL_chI, aLen_chI, hR_chI, ↓reduceIte, not_true_eq_false, not_false_eq_true, eq_self, c10, Nat.zero_add, nI_add, litA, litB, litM, nI_mul, nI_leI, nI_ltI, nI_eq, litLe, litLe2, litLt, litLt2, litEq, litEq2, in_nI, lit_in, nI_clamp, lit_cl, if_pos, if_neg, WD w (isD_3 q.1), Q136 w q]
    rfl
theorem Q105 {rb dr : Nat} {jd : Option Nat} {h : rz_H} (w : Wf rb dr jd h) {k F : Nat} {g : Nat → Nat} (q : Dq h k F g) (d : Nat) : cW (d + 3) 105 [rz_r (some 109), rz_i (nI k)] h = some (rz_i (nI (pst F g (fun _ => true) nI)), h) := by
  have hF := q.2.2.1
  rw [E105]
  refine Eq.trans (lp_i0 (fun i s => rW (d + 2) 105 (4, (0, 0), [some (rz_r (some 109)), some (rz_i (nI k)), some (rz_i (nI s)), some (rz_i (nI i))], [], h)) (stp F g (fun _ => true) nI) F 0 (fun i s hi => ?_)) ?_
  · have hg := q.gv (nI i)
    rw [E105_4]
    unfold stp
    by_cases h16 : gv F g (nI i) = 16 <;> simp (disch := omega) only [bI_some, bV_some, bR_some, bL_some, ob_some, cd_t, cd_f, cd_d, okO_setI, okA_setI, okL_setI, aLen_setI, hR_setI, hI_setI, Bool.true_and, Bool.and_true, Bool.and_self, Option.isNone_some, Option.isSome_some, Option.isNone_none, Option.isSome_none, okO_chI, okA_chI, okL_chI, aLen_chI, hR_chI, ↓reduceIte, not_true_eq_false, not_false_eq_true, eq_self, c10, Nat.zero_add, nI_add, litA, litB, litM, nI_mul, nI_leI, nI_ltI, nI_eq, litLe, litLe2, litLt, litLt2, litEq, litEq2, in_nI, lit_in, nI_clamp, lit_cl, if_pos, if_neg, WMd w, Q41 w q, Q42 w q, Gp_gv, bit_nI, nI_or, h16, true_and, and_false]
  · rw [E105_4]
    simp (disch := omega) only [bI_some, bV_some, bR_some, bL_some, ob_some, cd_t, cd_f, cd_d, okO_setI, okA_setI, okL_setI, aLen_setI, hR_setI, hI_setI, Bool.true_and, Bool.and_true, Bool.and_self, Option.isNone_some, Option.isSome_some, Option.isNone_none, Option.isSome_none, okO_chI, okA_chI, okL_chI, aLen_chI, hR_chI, ↓reduceIte, not_true_eq_false, not_false_eq_true, eq_self, c10, Nat.zero_add, nI_add, litA, litB, litM, nI_mul, nI_leI, nI_ltI, nI_eq, litLe, litLe2, litLt, litLt2, litEq, litEq2, in_nI, lit_in, nI_clamp, lit_cl, if_pos, if_neg, WMd w, Q41 w q]
    rfl
def eyb (x : Int32) (i : Nat) : Bool := decide ((x >>> (nI i &&& 31)) &&& (1 : Int32) = 1)
theorem Q265 {rb dr : Nat} {jd : Option Nat} {h : rz_H} (w : Wf rb dr jd h) {k F : Nat} {g : Nat → Nat} (q : Dq h k F g) (d : Nat) (x y : Int32) : cW (d + 3) 265 [rz_r (some (5 + 3 * k)), rz_i x, rz_i y] h = some (rz_i (nI (pcn (pst F g (eyb x) (fun i => y + nI i)))), h) := by
  have hF := q.2.2.1
  rw [E265]
  refine lp_j (fun i s j => rW (d + 2) 265 (4, (0, 0), [some (rz_r (some (5 + 3 * k))), some (rz_i x), some (rz_i y), some (rz_i (nI s)), some (rz_i (nI i)), j], [], h)) (fun s => bI (cW (d + 2) 275 [rz_i (nI s)] h) fun x5 h4 => some (rz_i x5, h4)) (stp F g (eyb x) (fun i => y + nI i)) F (fun i s j hi => ?_) (fun s j => ?_) F 0 0 none (by omega) |>.trans ?_
  · have hg := q.gv (y + nI i)
    refine ⟨some (rz_i (Gp F g (y + nI i))), ?_⟩
    rw [E265_4]
    unfold stp eyb
    by_cases he : (x >>> (nI i &&& 31)) &&& (1 : Int32) = 1 <;> by_cases h16 : gv F g (y + nI i) = 16 <;> simp (disch := omega) only [bI_some, bV_some, bR_some, bL_some, ob_some, cd_t, cd_f, cd_d, okO_setI, okA_setI, okL_setI, aLen_setI, hR_setI, hI_setI, Bool.true_and, Bool.and_true, Bool.and_self, Option.isNone_some, Option.isSome_some, Option.isNone_none, Option.isSome_none, okO_chI, okA_chI, okL_chI, aLen_chI, hR_chI, ↓reduceIte, not_true_eq_false, not_false_eq_true, eq_self, c10, Nat.zero_add, nI_add, litA, litB, litM, nI_mul, nI_leI, nI_ltI, nI_eq, litLe, litLe2, litLt, litLt2, litEq, litEq2, in_nI, lit_in, nI_clamp, lit_cl, if_pos, if_neg, WD w (isD_3 q.1), Q136 w q, Q144 w q, Gp_gv, bit_nI, nI_or, h16, he, decide_true, decide_false, true_and, and_false, false_and, Bool.false_eq_true]
  · rw [E265_4]
    simp (disch := omega) only [bI_some, bV_some, bR_some, bL_some, ob_some, cd_t, cd_f, cd_d, okO_setI, okA_setI, okL_setI, aLen_setI, hR_setI, hI_setI, Bool.true_and, Bool.and_true, Bool.and_self, Option.isNone_some, Option.isSome_some, Option.isNone_none, Option.isSome_none, okO_chI, okA_chI, okL_chI, aLen_chI, hR_chI, ↓reduceIte, not_true_eq_false, not_false_eq_true, eq_self, c10, Nat.zero_add, nI_add, litA, litB, litM, nI_mul, nI_leI, nI_ltI, nI_eq, litLe, litLe2, litLt, litLt2, litEq, litEq2, in_nI, lit_in, nI_clamp, lit_cl, if_pos, if_neg, WD w (isD_3 q.1), Q136 w q]
  · rw [show itr (stp F g (eyb x) (fun i => y + nI i)) 0 F 0 = pst F g (eyb x) (fun i => y + nI i) from rfl, S275 (d + 1) h (pst_lt q (eyb x) (fun i => y + nI i))]; rfl
theorem S36 (d : Nat) (h : rz_H) (x : Int32) (i : Nat) : cW (d + 1) 36 [rz_i x, rz_i (nI i)] h = some (rz_i (bI1 (eyb x i)), h) := by
  rw [E36]
  unfold eyb bI1
  by_cases he : (x >>> (nI i &&& 31)) &&& (1 : Int32) = 1 <;> simp only [bI_some, bV_some, bR_some, bL_some, ob_some, cd_t, cd_f, cd_d, okO_setI, okA_setI, okL_setI, aLen_setI, hR_setI, hI_setI, Bool.true_and, Bool.and_true, Bool.and_self, Option.isNone_some, Option.isSome_some, Option.isNone_none, Option.isSome_none, okO_chI, okA_chI, okL_chI, aLen_chI, hR_chI, ↓reduceIte, not_true_eq_false, not_false_eq_true, eq_self, c10, he, decide_true, decide_false, Bool.false_eq_true]
theorem Q119 {rb dr : Nat} {jd : Option Nat} {h : rz_H} (w : Wf rb dr jd h) {k F : Nat} {g : Nat → Nat} (q : Dq h k F g) (d : Nat) (x y : Int32) : cW (d + 3) 119 [rz_r (some 109), rz_i (nI k), rz_i x, rz_i y] h = some (rz_i (nI (pcn (pst F g (eyb x) (fun i => y + nI i)))), h) := by
  have hF := q.2.2.1
  rw [E119]
  refine Eq.trans (lp_i0 (fun i s => rW (d + 2) 119 (4, (0, 0), [some (rz_r (some 109)), some (rz_i (nI k)), some (rz_i x), some (rz_i y), some (rz_i (nI s)), some (rz_i (nI i))], [], h)) (stp F g (eyb x) (fun i => y + nI i)) F 0 (fun i s hi => ?_)) ?_
  · have hg := q.gv (y + nI i)
    rw [E119_4]
    unfold stp
    by_cases he : eyb x i = true <;> by_cases h16 : gv F g (y + nI i) = 16 <;> simp (disch := omega) only [bI_some, bV_some, bR_some, bL_some, ob_some, cd_t, cd_f, cd_d, okO_setI, okA_setI, okL_setI, aLen_setI, hR_setI, hI_setI, Bool.true_and, Bool.and_true, Bool.and_self, Option.isNone_some, Option.isSome_some, Option.isNone_none, Option.isSome_none, okO_chI, okA_chI, okL_chI, aLen_chI, hR_chI, ↓reduceIte, not_true_eq_false, not_false_eq_true, eq_self, c10, Nat.zero_add, nI_add, litA, litB, litM, nI_mul, nI_leI, nI_ltI, nI_eq, litLe, litLe2, litLt, litLt2, litEq, litEq2, in_nI, lit_in, nI_clamp, lit_cl, if_pos, if_neg, WMd w, Q41 w q, S36, Q42 w q, Gp_gv, bit_nI, nI_or, h16, he, true_and, and_false, false_and, bI1, Bool.false_eq_true]
  · rw [E119_4]
    have := pst_lt q (eyb x) (fun i => y + nI i)
    rw [show itr (stp F g (eyb x) (fun i => y + nI i)) 0 F 0 = pst F g (eyb x) (fun i => y + nI i) from rfl]
    simp (disch := omega) only [bI_some, bV_some, bR_some, bL_some, ob_some, cd_t, cd_f, cd_d, okO_setI, okA_setI, okL_setI, aLen_setI, hR_setI, hI_setI, Bool.true_and, Bool.and_true, Bool.and_self, Option.isNone_some, Option.isSome_some, Option.isNone_none, Option.isSome_none, okO_chI, okA_chI, okL_chI, aLen_chI, hR_chI, ↓reduceIte, not_true_eq_false, not_false_eq_true, eq_self, c10, Nat.zero_add, nI_add, litA, litB, litM, nI_mul, nI_leI, nI_ltI, nI_eq, litLe, litLe2, litLt, litLt2, litEq, litEq2, in_nI, lit_in, nI_clamp, lit_cl, if_pos, if_neg, WMd w, Q41 w q, S37 _ _ this]
def crn (F : Nat) (g : Nat → Nat) (x : Int32) (p : Nat) : Nat := pcn (pst F g (eyb x) (fun i => nI (p + i)))
theorem Q266 {rb dr : Nat} {jd : Option Nat} {h : rz_H} (w : Wf rb dr jd h) {k F : Nat} {g : Nat → Nat} (q : Dq h k F g) (d : Nat) (x : Int32) : cW (d + 4) 266 [rz_r (some (5 + 3 * k)), rz_i x] h = some (rz_i (nI (itr (tw (crn F g x)) 0 F (0, -1)).1), h) := by
  have hF := q.2.2.1
  rw [E266]
  refine lp_j (fun r (s : Nat × Int32) j => rW (d + 3) 266 (6, (0, 0), [some (rz_r (some (5 + 3 * k))), some (rz_i x), some (rz_i (nI s.1)), some (rz_i s.2), some (rz_i (nI r)), j], [], h)) (fun s => some (rz_i (nI s.1), h)) (tw (crn F g x)) F (fun r s j hr => ⟨some (rz_i (nI (crn F g x r))), ?_⟩) (fun s j => ?_) F 0 (0, -1) none (by omega)
  · have e : pcn (pst F g (eyb x) (fun i => nI r + nI i)) = crn F g x r := by simp only [nI_add]; rfl
    rw [E266_6]
    unfold tw
    by_cases h1 : s.2 < nI (crn F g x r)
    · have h2 := Int32.not_le.mpr h1
      simp (disch := omega) only [bI_some, bV_some, bR_some, bL_some, ob_some, cd_t, cd_f, cd_d, okO_setI, okA_setI, okL_setI, aLen_setI, hR_setI, hI_setI, Bool.true_and, Bool.and_true, Bool.and_self, Option.isNone_some, Option.isSome_some, Option.isNone_none, Option.isSome_none, okO_chI, okA_chI, okL_chI, aLen_chI, hR_chI, ↓reduceIte, not_true_eq_false, not_false_eq_true, eq_self, c10, nI_1, nI_leI, if_neg, if_pos, WD w (isD_3 q.1), Q136 w q, Q265 w q, e, h1, h2]
    · have h2 := Int32.not_lt.mp h1
      simp (disch := omega) only [bI_some, bV_some, bR_some, bL_some, ob_some, cd_t, cd_f, cd_d, okO_setI, okA_setI, okL_setI, aLen_setI, hR_setI, hI_setI, Bool.true_and, Bool.and_true, Bool.and_self, Option.isNone_some, Option.isSome_some, Option.isNone_none, Option.isSome_none, okO_chI, okA_chI, okL_chI, aLen_chI, hR_chI, ↓reduceIte, not_true_eq_false, not_false_eq_true, eq_self, c10, nI_1, nI_leI, if_neg, if_pos, WD w (isD_3 q.1), Q136 w q, Q265 w q, e, h1, h2]
  · rw [E266_6]
    simp (disch := omega) only [bI_some, bV_some, bR_some, bL_some, ob_some, cd_t, cd_f, cd_d, okO_setI, okA_setI, okL_setI, aLen_setI, hR_setI, hI_setI, Bool.true_and, Bool.and_true, Bool.and_self, Option.isNone_some, Option.isSome_some, Option.isNone_none, Option.isSome_none, okO_chI, okA_chI, okL_chI, aLen_chI, hR_chI, ↓reduceIte, not_true_eq_false, not_false_eq_true, eq_self, c10, Nat.zero_add, nI_add, litA, litB, litM, nI_mul, nI_leI, nI_ltI, nI_eq, litLe, litLe2, litLt, litLt2, litEq, litEq2, in_nI, lit_in, nI_clamp, lit_cl, if_pos, if_neg, WD w (isD_3 q.1), Q136 w q]
/-- the model's way to the best position -/
def bst (c : Nat → Nat) (r b : Nat) : Nat := if c r ≤ c b then b else r
theorem tw_bst (c : Nat → Nat) (hc : ∀ r, c r < 2 ^ 31) : ∀ n, (itr (tw c) 0 (n + 1) (0, -1)).1 = itr (bst c) 1 n 0
  | 0 => by
    show (tw c 0 (0, -1)).1 = 0
    unfold tw
    split <;> rfl
  | n + 1 => by
    have ih := tw_bst c hc n
    have ii := tw_in c hc n
    rw [itr_succ (tw c) (n + 1) 0, itr_succ (bst c) n 1, ← ih, Nat.zero_add, Nat.add_comm 1 n]
    generalize itr (tw c) 0 (n + 1) (0, -1) = s at ii
    unfold tw bst
    rw [ii]
    by_cases h : c s.1 < c (n + 1)
    · rw [if_pos (nI_lt h (hc _)), if_neg (by omega)]
    · rw [if_neg (nI_nlt (by omega) (hc _)), if_pos (by omega)]
theorem P21 (x y z : Int32) : Pr Rel 21 120 [rz_i x, rz_i y, rz_i z] := by
  intro h r
  obtain ⟨rb, dr, jd, w, r1, r2, r3, r4, r5⟩ := id r
  rcases tlv r1 r2 x with ⟨k, F, p, t, v, s, q, g, e, rfl, h0, D⟩ | n
  · have dq := D.dq h0
    obtain ⟨d1, d2, d3, d4, d5, d6, d7, d8, d9, d10, d11, d12, d13, d14, d15, d16, d17, d18, d19, d20, d21⟩ := D
    by_cases hy : 0 ≤ y ∧ y ≤ 65535
    · have hy1 := Int32.not_lt.mpr hy.1
      have hy2 := Int32.not_lt.mpr hy.2
      by_cases hz : 0 ≤ z ∧ z ≤ 2
      · have hz1 := Int32.not_lt.mpr hz.1
        have hz2 := hz.2
        by_cases z0 : z = 0
        · refine ⟨nI (crn F g y p), h, h, ?_, ?_, (WMd w).1, r⟩
          · rw [show DD = 99 + 1 from rfl, E21]
            simp only [bI_some, bV_some, bR_some, bL_some, ob_some, cd_t, cd_f, cd_d, okO_setI, okA_setI, okL_setI, aLen_setI, hR_setI, hI_setI, Bool.true_and, Bool.and_true, Bool.and_self, Option.isNone_some, Option.isSome_some, Option.isNone_none, Option.isSome_none, okO_chI, okA_chI, okL_chI, aLen_chI, hR_chI, ↓reduceIte, not_true_eq_false, not_false_eq_true, eq_self, c10, WRt w, Q181 w dq, WD w d1, if_neg hy1, if_neg hy2, if_neg hz1, if_pos hz2, z0, S137 w d1, d10, Q265 w dq, nI_add]
            rfl
          · rw [show DD = 99 + 1 from rfl, E120]
            simp (disch := omega) only [bI_some, bV_some, bR_some, bL_some, ob_some, cd_t, cd_f, cd_d, okO_setI, okA_setI, okL_setI, aLen_setI, hR_setI, hI_setI, Bool.true_and, Bool.and_true, Bool.and_self, Option.isNone_some, Option.isSome_some, Option.isNone_none, Option.isSome_none, okO_chI, okA_chI, okL_chI, aLen_chI, hR_chI, ↓reduceIte, not_true_eq_false, not_false_eq_true, eq_self, c10, litA, in_nI, nI_clamp, WMd w, Q39 w dq, S33, if_pos hy, if_pos hz, z0, d16, Q119 w dq, nI_add]
            rfl
        · have hc : ∀ r, crn F g y r < 2 ^ 31 := fun r => Nat.lt_of_le_of_lt (pcn_le _) (by omega)
          have tb := tw_bst (crn F g y) hc (F - 1)
          rw [show F - 1 + 1 = F by omega] at tb
          have mod : rW 99 120 (33, (0, 0), [some (rz_r (some 109)), some (rz_i (nI k)), some (rz_i y), some (rz_i z), some (rz_i 0), some (rz_i 1)], [], h) = some (rz_i (if z = 1 then nI (itr (bst (crn F g y)) 1 (F - 1) 0) else nI (crn F g y (itr (bst (crn F g y)) 1 (F - 1) 0))), h) := by
            have e2 := lp_it (fun i b => rW 99 120 (33, (0, 0), [some (rz_r (some 109)), some (rz_i (nI k)), some (rz_i y), some (rz_i z), some (rz_i (nI b)), some (rz_i (nI i))], [], h)) (bst (crn F g y)) (F - 1) 1 0 (fun i b h1 h2 => by
              show rW 99 120 (33, (0, 0), [some (rz_r (some 109)), some (rz_i (nI k)), some (rz_i y), some (rz_i z), some (rz_i (nI b)), some (rz_i (nI i))], [], h) = _
              have ee : ∀ r, pcn (pst F g (eyb y) (fun i => nI (r + i))) = crn F g y r := fun _ => rfl
              have b1 := hc i
              have b2 := hc b
              rw [E120_33]
              unfold bst
              by_cases hb : crn F g y i ≤ crn F g y b <;> simp (disch := omega) only [bI_some, bV_some, bR_some, bL_some, ob_some, cd_t, cd_f, cd_d, okO_setI, okA_setI, okL_setI, aLen_setI, hR_setI, hI_setI, Bool.true_and, Bool.and_true, Bool.and_self, Option.isNone_some, Option.isSome_some, Option.isNone_none, Option.isSome_none, okO_chI, okA_chI, okL_chI, aLen_chI, hR_chI, ↓reduceIte, not_true_eq_false, not_false_eq_true, eq_self, c10, Nat.zero_add, nI_add, litA, litB, litM, nI_mul, nI_leI, nI_ltI, nI_eq, litLe, litLe2, litLt, litLt2, litEq, litEq2, in_nI, lit_in, nI_clamp, lit_cl, if_pos, if_neg, WMd w, Q41 w dq, Q119 w dq, ee, hb])
            refine Eq.trans e2 ?_
            rw [show 1 + (F - 1) = F by omega, E120_33]
            by_cases z1 : z = 1 <;> simp (disch := omega) only [bI_some, bV_some, bR_some, bL_some, ob_some, cd_t, cd_f, cd_d, okO_setI, okA_setI, okL_setI, aLen_setI, hR_setI, hI_setI, Bool.true_and, Bool.and_true, Bool.and_self, Option.isNone_some, Option.isSome_some, Option.isNone_none, Option.isSome_none, okO_chI, okA_chI, okL_chI, aLen_chI, hR_chI, ↓reduceIte, not_true_eq_false, not_false_eq_true, eq_self, c10, Nat.zero_add, nI_add, litA, litB, litM, nI_mul, nI_leI, nI_ltI, nI_eq, litLe, litLe2, litLt, litLt2, litEq, litEq2, in_nI, lit_in, nI_clamp, lit_cl, if_pos, if_neg, WMd w, Q41 w dq, Q119 w dq, z1]
            rfl
          refine ⟨if z = 1 then nI (itr (bst (crn F g y)) 1 (F - 1) 0) else nI (crn F g y (itr (bst (crn F g y)) 1 (F - 1) 0)), h, h, ?_, ?_, (WMd w).1, r⟩
          · rw [show DD = 99 + 1 from rfl, E21]
            by_cases z1 : z = 1
            · have nz1 : ¬ ¬ z = 1 := fun q => q z1
              simp only [bI_some, bV_some, bR_some, bL_some, ob_some, cd_t, cd_f, cd_d, okO_setI, okA_setI, okL_setI, aLen_setI, hR_setI, hI_setI, Bool.true_and, Bool.and_true, Bool.and_self, Option.isNone_some, Option.isSome_some, Option.isNone_none, Option.isSome_none, okO_chI, okA_chI, okL_chI, aLen_chI, hR_chI, ↓reduceIte, not_true_eq_false, not_false_eq_true, eq_self, c10, WRt w, Q181 w dq, WD w d1, if_neg hy1, if_neg hy2, if_neg hz1, if_pos hz2, if_pos z0, if_neg nz1, if_pos z1, Q266 w dq, Q265 w dq, tb]
            · simp only [bI_some, bV_some, bR_some, bL_some, ob_some, cd_t, cd_f, cd_d, okO_setI, okA_setI, okL_setI, aLen_setI, hR_setI, hI_setI, Bool.true_and, Bool.and_true, Bool.and_self, Option.isNone_some, Option.isSome_some, Option.isNone_none, Option.isSome_none, okO_chI, okA_chI, okL_chI, aLen_chI, hR_chI, ↓reduceIte, not_true_eq_false, not_false_eq_true, eq_self, c10, WRt w, Q181 w dq, WD w d1, if_neg hy1, if_neg hy2, if_neg hz1, if_pos hz2, z0, z1, Q266 w dq, Q265 w dq, tb, nI_add]
              rfl
          · rw [show DD = 99 + 1 from rfl, E120]
            simp only [bI_some, bV_some, bR_some, bL_some, ob_some, cd_t, cd_f, cd_d, okO_setI, okA_setI, okL_setI, aLen_setI, hR_setI, hI_setI, Bool.true_and, Bool.and_true, Bool.and_self, Option.isNone_some, Option.isSome_some, Option.isNone_none, Option.isSome_none, okO_chI, okA_chI, okL_chI, aLen_chI, hR_chI, ↓reduceIte, not_true_eq_false, not_false_eq_true, eq_self, c10, WMd w, Q39 w dq, S33, if_pos hy, if_pos hz, z0]
            exact mod
      · refine ⟨-1, h, h, ?_, ?_, (WMd w).1, r⟩
        · rw [show DD = 99 + 1 from rfl, E21]
          by_cases h1 : z < 0
          · simp only [bI_some, bV_some, bR_some, bL_some, ob_some, cd_t, cd_f, cd_d, okO_setI, okA_setI, okL_setI, aLen_setI, hR_setI, hI_setI, Bool.true_and, Bool.and_true, Bool.and_self, Option.isNone_some, Option.isSome_some, Option.isNone_none, Option.isSome_none, okO_chI, okA_chI, okL_chI, aLen_chI, hR_chI, ↓reduceIte, not_true_eq_false, not_false_eq_true, eq_self, c10, WRt w, Q181 w dq, if_neg hy1, if_neg hy2, if_pos h1]
          · have h2 : ¬ z ≤ 2 := fun e => hz ⟨Int32.not_lt.mp h1, e⟩
            simp only [bI_some, bV_some, bR_some, bL_some, ob_some, cd_t, cd_f, cd_d, okO_setI, okA_setI, okL_setI, aLen_setI, hR_setI, hI_setI, Bool.true_and, Bool.and_true, Bool.and_self, Option.isNone_some, Option.isSome_some, Option.isNone_none, Option.isSome_none, okO_chI, okA_chI, okL_chI, aLen_chI, hR_chI, ↓reduceIte, not_true_eq_false, not_false_eq_true, eq_self, c10, WRt w, Q181 w dq, if_neg hy1, if_neg hy2, if_neg h1, if_neg h2]
        · rw [show DD = 99 + 1 from rfl, E120]
          simp only [bI_some, bV_some, bR_some, bL_some, ob_some, cd_t, cd_f, cd_d, okO_setI, okA_setI, okL_setI, aLen_setI, hR_setI, hI_setI, Bool.true_and, Bool.and_true, Bool.and_self, Option.isNone_some, Option.isSome_some, Option.isNone_none, Option.isSome_none, okO_chI, okA_chI, okL_chI, aLen_chI, hR_chI, ↓reduceIte, not_true_eq_false, not_false_eq_true, eq_self, c10, WMd w, Q39 w dq, S33, if_pos hy, if_neg hz]
    · refine ⟨-1, h, h, ?_, ?_, (WMd w).1, r⟩
      · rw [show DD = 99 + 1 from rfl, E21]
        by_cases h1 : y < 0
        · simp only [bI_some, bV_some, bR_some, bL_some, ob_some, cd_t, cd_f, cd_d, okO_setI, okA_setI, okL_setI, aLen_setI, hR_setI, hI_setI, Bool.true_and, Bool.and_true, Bool.and_self, Option.isNone_some, Option.isSome_some, Option.isNone_none, Option.isSome_none, okO_chI, okA_chI, okL_chI, aLen_chI, hR_chI, ↓reduceIte, not_true_eq_false, not_false_eq_true, eq_self, c10, WRt w, Q181 w dq, if_pos h1]
        · have h2 : (65535 : Int32) < y := Int32.not_le.mp fun e => hy ⟨Int32.not_lt.mp h1, e⟩
          simp only [bI_some, bV_some, bR_some, bL_some, ob_some, cd_t, cd_f, cd_d, okO_setI, okA_setI, okL_setI, aLen_setI, hR_setI, hI_setI, Bool.true_and, Bool.and_true, Bool.and_self, Option.isNone_some, Option.isSome_some, Option.isNone_none, Option.isSome_none, okO_chI, okA_chI, okL_chI, aLen_chI, hR_chI, ↓reduceIte, not_true_eq_false, not_false_eq_true, eq_self, c10, WRt w, Q181 w dq, if_neg h1, if_pos h2]
      · rw [show DD = 99 + 1 from rfl, E120]
        simp only [bI_some, bV_some, bR_some, bL_some, ob_some, cd_t, cd_f, cd_d, okO_setI, okA_setI, okL_setI, aLen_setI, hR_setI, hI_setI, Bool.true_and, Bool.and_true, Bool.and_self, Option.isNone_some, Option.isSome_some, Option.isNone_none, Option.isSome_none, okO_chI, okA_chI, okL_chI, aLen_chI, hR_chI, ↓reduceIte, not_true_eq_false, not_false_eq_true, eq_self, c10, WMd w, Q39 w dq, S33, if_neg hy]
  · refine ⟨-1, h, h, ?_, ?_, (WMd w).1, r⟩
    · rw [show DD = 99 + 1 from rfl, E21]
      simp only [bI_some, bV_some, bR_some, bL_some, ob_some, cd_t, cd_f, cd_d, okO_setI, okA_setI, okL_setI, aLen_setI, hR_setI, hI_setI, Bool.true_and, Bool.and_true, Bool.and_self, Option.isNone_some, Option.isSome_some, Option.isNone_none, Option.isSome_none, okO_chI, okA_chI, okL_chI, aLen_chI, hR_chI, ↓reduceIte, not_true_eq_false, not_false_eq_true, eq_self, c10, WRt w, N181 w n]
    · rw [show DD = 99 + 1 from rfl, E120]
      simp only [bI_some, bV_some, bR_some, bL_some, ob_some, cd_t, cd_f, cd_d, okO_setI, okA_setI, okL_setI, aLen_setI, hR_setI, hI_setI, Bool.true_and, Bool.and_true, Bool.and_self, Option.isNone_some, Option.isSome_some, Option.isNone_none, Option.isSome_none, okO_chI, okA_chI, okL_chI, aLen_chI, hR_chI, ↓reduceIte, not_true_eq_false, not_false_eq_true, eq_self, c10, WMd w, N39 w n]
/-! the shortest that is not seen -/
theorem uns_m {o : Nat} (o0 : 0 < o) (c L : Nat) (hc : 16 < c) : min c (min c (o ^ L) * o) = min c (o ^ (L + 1)) := by
  rw [Nat.pow_succ]
  rcases Nat.le_total (o ^ L) c with h1 | h1
  · rw [Nat.min_eq_right h1]
  · rw [Nat.min_eq_left h1, Nat.min_eq_left (Nat.le_mul_of_pos_right c o0), Nat.min_eq_left (Nat.le_trans h1 (Nat.le_mul_of_pos_right _ o0))]
def unp (F : Nat) (g : Nat → Nat) (o m : Nat) : Bool := decide (cnt (nwd F g false (m + 1)) F < o ^ (m + 1))
theorem Q264 {rb dr : Nat} {jd : Option Nat} {h : rz_H} (w : Wf rb dr jd h) {k F : Nat} {g : Nat → Nat} (q : Dq h k F g) (d : Nat) {o : Nat} (o0 : 0 < o) (ol : o ≤ 16) : rW (d + 4) 264 (12, (0, 0), [some (rz_r (some (5 + 3 * k))), some (rz_i (nI o)), some (rz_i 1), some (rz_i 1)], [], h) = oel (fun m => some (rz_i (nI (m + 1)), h)) (some (rz_i (-2), h)) (fst (unp F g o) 0 16) := by
  have hF := q.2.2.1
  refine lp_jf (τ := Unit) (fun m _ => rW (d + 4) 264 (12, (0, 0), [some (rz_r (some (5 + 3 * k))), some (rz_i (nI o)), some (rz_i (nI (min 17 (o ^ m)))), some (rz_i (nI (m + 1)))], [], h)) _ _ _ 16 (fun m _ hm => ?_) (fun _ => ?_) 16 0 () (by omega)
  · have h1 := uns_m o0 17 m (by omega)
    have h2 : min 17 (o ^ m) * o ≤ 17 * 16 := Nat.mul_le_mul (Nat.min_le_left _ _) ol
    have h3 : cnt (nwd F g false (m + 1)) F ≤ 16 := Nat.le_trans (cnt_le _ F) hF
    have h4 : min 17 (o ^ (m + 1)) ≤ 17 := Nat.min_le_left _ _
    rw [Nat.min_comm] at h1
    refine ⟨fun hp => ?_, fun hp => ⟨(), ?_⟩⟩
    · have hp := of_decide_eq_true hp
      rw [E264_12, show (0 : Int32) = bI1 false from rfl, show (17 : Int32) = nI 17 from rfl]
      have hq : ¬ min 17 (o ^ (m + 1)) ≤ cnt (nwd F g false (m + 1)) F := by omega
      simp (disch := omega) only [bI_some, bV_some, bR_some, bL_some, ob_some, cd_t, cd_f, cd_d, okO_setI, okA_setI, okL_setI, aLen_setI, hR_setI, hI_setI, Bool.true_and, Bool.and_true, Bool.and_self, Option.isNone_some, Option.isSome_some, Option.isNone_none, Option.isSome_none, okO_chI, okA_chI, okL_chI, aLen_chI, hR_chI, ↓reduceIte, not_true_eq_false, not_false_eq_true, eq_self, c10, Nat.zero_add, nI_add, litA, litB, litM, nI_mul, nI_leI, nI_ltI, nI_eq, litLe, litLe2, litLt, litLt2, litEq, litEq2, in_nI, lit_in, nI_clamp, lit_cl, if_pos, if_neg, T278, mn_nI, h1, Q262 w q, hq]
    · have hp := of_decide_eq_false hp
      rw [E264_12, show (0 : Int32) = bI1 false from rfl, show (17 : Int32) = nI 17 from rfl]
      have hq : min 17 (o ^ (m + 1)) ≤ cnt (nwd F g false (m + 1)) F := by omega
      simp (disch := omega) only [bI_some, bV_some, bR_some, bL_some, ob_some, cd_t, cd_f, cd_d, okO_setI, okA_setI, okL_setI, aLen_setI, hR_setI, hI_setI, Bool.true_and, Bool.and_true, Bool.and_self, Option.isNone_some, Option.isSome_some, Option.isNone_none, Option.isSome_none, okO_chI, okA_chI, okL_chI, aLen_chI, hR_chI, ↓reduceIte, not_true_eq_false, not_false_eq_true, eq_self, c10, Nat.zero_add, nI_add, litA, litB, litM, nI_mul, nI_leI, nI_ltI, nI_eq, litLe, litLe2, litLt, litLt2, litEq, litEq2, in_nI, lit_in, nI_clamp, lit_cl, if_pos, if_neg, T278, mn_nI, h1, Q262 w q, hq]
  · rw [E264_12]
    simp (disch := omega) only [bI_some, bV_some, bR_some, bL_some, ob_some, cd_t, cd_f, cd_d, okO_setI, okA_setI, okL_setI, aLen_setI, hR_setI, hI_setI, Bool.true_and, Bool.and_true, Bool.and_self, Option.isNone_some, Option.isSome_some, Option.isNone_none, Option.isSome_none, okO_chI, okA_chI, okL_chI, aLen_chI, hR_chI, ↓reduceIte, not_true_eq_false, not_false_eq_true, eq_self, c10, Nat.zero_add, nI_add, litA, litB, litM, nI_mul, nI_leI, nI_ltI, nI_eq, litLe, litLe2, litLt, litLt2, litEq, litEq2, in_nI, lit_in, nI_clamp, lit_cl, if_pos, if_neg]
theorem Q123 {rb dr : Nat} {jd : Option Nat} {h : rz_H} (w : Wf rb dr jd h) {k F : Nat} {g : Nat → Nat} (q : Dq h k F g) (d : Nat) {o : Nat} (o0 : 0 < o) (ol : o ≤ 16) : rW (d + 4) 123 (19, (0, 0), [some (rz_r (some 109)), some (rz_i (nI k)), some (rz_i (nI o)), some (rz_i 1), some (rz_i 1)], [], h) = oel (fun m => some (rz_i (nI (m + 1)), h)) (some (rz_i (-2), h)) (fst (unp F g o) 0 16) := by
  have hF := q.2.2.1
  refine lp_jf (τ := Unit) (fun m _ => rW (d + 4) 123 (19, (0, 0), [some (rz_r (some 109)), some (rz_i (nI k)), some (rz_i (nI o)), some (rz_i (nI (min 1000000 (o ^ m)))), some (rz_i (nI (m + 1)))], [], h)) _ _ _ 16 (fun m _ hm => ?_) (fun _ => ?_) 16 0 () (by omega)
  · have h1 := uns_m o0 1000000 m (by omega)
    have h2 : min 1000000 (o ^ m) * o ≤ 1000000 * 16 := Nat.mul_le_mul (Nat.min_le_left _ _) ol
    have h3 : cnt (nwd F g false (m + 1)) F ≤ 16 := Nat.le_trans (cnt_le _ F) hF
    have h4 : min 1000000 (o ^ (m + 1)) ≤ 1000000 := Nat.min_le_left _ _
    refine ⟨fun hp => ?_, fun hp => ⟨(), ?_⟩⟩
    · have hp := of_decide_eq_true hp
      rw [E123_19, show (1000000 : Int32) = nI 1000000 from rfl]
      have hq : ¬ min 1000000 (o ^ (m + 1)) ≤ cnt (nwd F g false (m + 1)) F := by omega
      have c := Q117 w q d (m + 1) (by omega) false
      rw [show bI1 (!false) = 1 from rfl] at c
      simp (disch := omega) only [bI_some, bV_some, bR_some, bL_some, ob_some, cd_t, cd_f, cd_d, okO_setI, okA_setI, okL_setI, aLen_setI, hR_setI, hI_setI, Bool.true_and, Bool.and_true, Bool.and_self, Option.isNone_some, Option.isSome_some, Option.isNone_none, Option.isSome_none, okO_chI, okA_chI, okL_chI, aLen_chI, hR_chI, ↓reduceIte, not_true_eq_false, not_false_eq_true, eq_self, c10, Nat.zero_add, nI_add, litA, litB, litM, nI_mul, nI_leI, nI_ltI, nI_eq, litLe, litLe2, litLt, litLt2, litEq, litEq2, in_nI, lit_in, nI_clamp, lit_cl, if_pos, if_neg, WMd w, S34, mn_nI, h1, c, hq]
    · have hp := of_decide_eq_false hp
      rw [E123_19, show (1000000 : Int32) = nI 1000000 from rfl]
      have hq : min 1000000 (o ^ (m + 1)) ≤ cnt (nwd F g false (m + 1)) F := by omega
      have c := Q117 w q d (m + 1) (by omega) false
      rw [show bI1 (!false) = 1 from rfl] at c
      simp (disch := omega) only [bI_some, bV_some, bR_some, bL_some, ob_some, cd_t, cd_f, cd_d, okO_setI, okA_setI, okL_setI, aLen_setI, hR_setI, hI_setI, Bool.true_and, Bool.and_true, Bool.and_self, Option.isNone_some, Option.isSome_some, Option.isNone_none, Option.isSome_none, okO_chI, okA_chI, okL_chI, aLen_chI, hR_chI, ↓reduceIte, not_true_eq_false, not_false_eq_true, eq_self, c10, Nat.zero_add, nI_add, litA, litB, litM, nI_mul, nI_leI, nI_ltI, nI_eq, litLe, litLe2, litLt, litLt2, litEq, litEq2, in_nI, lit_in, nI_clamp, lit_cl, if_pos, if_neg, WMd w, S34, mn_nI, h1, c, hq]
  · rw [E123_19]
    simp (disch := omega) only [bI_some, bV_some, bR_some, bL_some, ob_some, cd_t, cd_f, cd_d, okO_setI, okA_setI, okL_setI, aLen_setI, hR_setI, hI_setI, Bool.true_and, Bool.and_true, Bool.and_self, Option.isNone_some, Option.isSome_some, Option.isNone_none, Option.isSome_none, okO_chI, okA_chI, okL_chI, aLen_chI, hR_chI, ↓reduceIte, not_true_eq_false, not_false_eq_true, eq_self, c10, Nat.zero_add, nI_add, litA, litB, litM, nI_mul, nI_leI, nI_ltI, nI_eq, litLe, litLe2, litLt, litLt2, litEq, litEq2, in_nI, lit_in, nI_clamp, lit_cl, if_pos, if_neg]
theorem P23 (x : Int32) : Pr Rel 23 123 [rz_i x] := by
  intro h r
  obtain ⟨rb, dr, jd, w, r1, r2, r3, r4, r5⟩ := id r
  rcases tld r1 r2 x with ⟨k, F, g, rfl, q⟩ | n
  · have hs := pst_lt q (fun _ => true) nI
    generalize ho : pcn (pst F g (fun _ => true) nI) = o
    have ol : o ≤ 16 := by rw [← ho]; exact pcn_le _
    by_cases o0 : o = 0
    · refine ⟨-2, h, h, ?_, ?_, (WMd w).1, r⟩
      · rw [show DD = 99 + 1 from rfl, E23]
        simp only [bI_some, bV_some, bR_some, bL_some, ob_some, cd_t, cd_f, cd_d, okO_setI, okA_setI, okL_setI, aLen_setI, hR_setI, hI_setI, Bool.true_and, Bool.and_true, Bool.and_self, Option.isNone_some, Option.isSome_some, Option.isNone_none, Option.isSome_none, okO_chI, okA_chI, okL_chI, aLen_chI, hR_chI, ↓reduceIte, not_true_eq_false, not_false_eq_true, eq_self, c10, WRt w, Q181 w q]
        rw [E264]
        simp (disch := omega) only [bI_some, bV_some, bR_some, bL_some, ob_some, cd_t, cd_f, cd_d, okO_setI, okA_setI, okL_setI, aLen_setI, hR_setI, hI_setI, Bool.true_and, Bool.and_true, Bool.and_self, Option.isNone_some, Option.isSome_some, Option.isNone_none, Option.isSome_none, okO_chI, okA_chI, okL_chI, aLen_chI, hR_chI, ↓reduceIte, not_true_eq_false, not_false_eq_true, eq_self, c10, Nat.zero_add, nI_add, litA, litB, litM, nI_mul, nI_leI, nI_ltI, nI_eq, litLe, litLe2, litLt, litLt2, litEq, litEq2, in_nI, lit_in, nI_clamp, lit_cl, if_pos, if_neg, Q260 w q, S275 _ _ hs, ho, o0]
      · rw [show DD = 99 + 1 from rfl, E123]
        simp (disch := omega) only [bI_some, bV_some, bR_some, bL_some, ob_some, cd_t, cd_f, cd_d, okO_setI, okA_setI, okL_setI, aLen_setI, hR_setI, hI_setI, Bool.true_and, Bool.and_true, Bool.and_self, Option.isNone_some, Option.isSome_some, Option.isNone_none, Option.isSome_none, okO_chI, okA_chI, okL_chI, aLen_chI, hR_chI, ↓reduceIte, not_true_eq_false, not_false_eq_true, eq_self, c10, Nat.zero_add, nI_add, litA, litB, litM, nI_mul, nI_leI, nI_ltI, nI_eq, litLe, litLe2, litLt, litLt2, litEq, litEq2, in_nI, lit_in, nI_clamp, lit_cl, if_pos, if_neg, WMd w, Q39 w q, Q105 w q, S37 _ _ hs, ho, o0]
    · refine ⟨oel (fun m => nI (m + 1)) (-2) (fst (unp F g o) 0 16), h, h, ?_, ?_, (WMd w).1, r⟩
      · rw [show DD = 99 + 1 from rfl, E23]
        simp only [bI_some, bV_some, bR_some, bL_some, ob_some, cd_t, cd_f, cd_d, okO_setI, okA_setI, okL_setI, aLen_setI, hR_setI, hI_setI, Bool.true_and, Bool.and_true, Bool.and_self, Option.isNone_some, Option.isSome_some, Option.isNone_none, Option.isSome_none, okO_chI, okA_chI, okL_chI, aLen_chI, hR_chI, ↓reduceIte, not_true_eq_false, not_false_eq_true, eq_self, c10, WRt w, Q181 w q]
        rw [E264]
        simp (disch := omega) only [bI_some, bV_some, bR_some, bL_some, ob_some, cd_t, cd_f, cd_d, okO_setI, okA_setI, okL_setI, aLen_setI, hR_setI, hI_setI, Bool.true_and, Bool.and_true, Bool.and_self, Option.isNone_some, Option.isSome_some, Option.isNone_none, Option.isSome_none, okO_chI, okA_chI, okL_chI, aLen_chI, hR_chI, ↓reduceIte, not_true_eq_false, not_false_eq_true, eq_self, c10, Nat.zero_add, nI_add, litA, litB, litM, nI_mul, nI_leI, nI_ltI, nI_eq, litLe, litLe2, litLt, litLt2, litEq, litEq2, in_nI, lit_in, nI_clamp, lit_cl, if_pos, if_neg, Q260 w q, S275 _ _ hs, ho]
        rw [Q264 w q 94 (by omega) ol]
        cases fst (unp F g o) 0 16 <;> rfl
      · rw [show DD = 99 + 1 from rfl, E123]
        simp (disch := omega) only [bI_some, bV_some, bR_some, bL_some, ob_some, cd_t, cd_f, cd_d, okO_setI, okA_setI, okL_setI, aLen_setI, hR_setI, hI_setI, Bool.true_and, Bool.and_true, Bool.and_self, Option.isNone_some, Option.isSome_some, Option.isNone_none, Option.isSome_none, okO_chI, okA_chI, okL_chI, aLen_chI, hR_chI, ↓reduceIte, not_true_eq_false, not_false_eq_true, eq_self, c10, Nat.zero_add, nI_add, litA, litB, litM, nI_mul, nI_leI, nI_ltI, nI_eq, litLe, litLe2, litLt, litLt2, litEq, litEq2, in_nI, lit_in, nI_clamp, lit_cl, if_pos, if_neg, WMd w, Q39 w q, Q105 w q, S37 _ _ hs, ho]
        rw [Q123 w q 95 (by omega) ol]
        cases fst (unp F g o) 0 16 <;> rfl
  · refine ⟨-1, h, h, ?_, ?_, (WMd w).1, r⟩
    · rw [show DD = 99 + 1 from rfl, E23]
      simp only [bI_some, bV_some, bR_some, bL_some, ob_some, cd_t, cd_f, cd_d, okO_setI, okA_setI, okL_setI, aLen_setI, hR_setI, hI_setI, Bool.true_and, Bool.and_true, Bool.and_self, Option.isNone_some, Option.isSome_some, Option.isNone_none, Option.isSome_none, okO_chI, okA_chI, okL_chI, aLen_chI, hR_chI, ↓reduceIte, not_true_eq_false, not_false_eq_true, eq_self, c10, WRt w, N181 w n]
    · rw [show DD = 99 + 1 from rfl, E123]
      simp only [bI_some, bV_some, bR_some, bL_some, ob_some, cd_t, cd_f, cd_d, okO_setI, okA_setI, okL_setI, aLen_setI, hR_setI, hI_setI, Bool.true_and, Bool.and_true, Bool.and_self, Option.isNone_some, Option.isSome_some, Option.isNone_none, Option.isSome_none, okO_chI, okA_chI, okL_chI, aLen_chI, hR_chI, ↓reduceIte, not_true_eq_false, not_false_eq_true, eq_self, c10, WMd w, N39 w n]
