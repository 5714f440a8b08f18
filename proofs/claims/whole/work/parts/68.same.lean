/-! loops with what is left over in the locals -/
theorem lp_j {σ τ ρ : Type} (P : Nat → σ → τ → ρ) (R : σ → ρ) (f : Nat → σ → σ) (n : Nat) (hs : ∀ i s j, i < n → ∃ j2, P i s j = P (i + 1) (f i s) j2) (hx : ∀ s j, P n s j = R s) : ∀ (c i : Nat) (s : σ) (j : τ), i + c = n → P i s j = R (itr f i c s)
  | 0, i, s, j, e => by
    have : i = n := by omega
    subst this
    exact hx s j
  | c + 1, i, s, j, e => by
    obtain ⟨j2, e2⟩ := hs i s j (by omega)
    rw [e2]
    exact lp_j P R f n hs hx c (i + 1) (f i s) j2 (by omega)
theorem lp_jf {τ ρ : Type} (P : Nat → τ → ρ) (Y : Nat → ρ) (N : ρ) (p : Nat → Bool) (n : Nat) (hs : ∀ i j, i < n → (p i = true → P i j = Y i) ∧ (p i = false → ∃ j2, P i j = P (i + 1) j2)) (hx : ∀ j, P n j = N) : ∀ (c i : Nat) (j : τ), i + c = n → P i j = oel Y N (fst p i c)
  | 0, i, j, e => by
    have : i = n := by omega
    subst this
    exact hx j
  | c + 1, i, j, e => by
    obtain ⟨h1, h2⟩ := hs i j (by omega)
    unfold fst
    by_cases hp : p i = true
    · rw [if_pos hp, h1 hp]; rfl
    · rw [if_neg hp]
      obtain ⟨j2, e2⟩ := h2 (by simpa using hp)
      rw [e2]
      exact lp_jf P Y N p n hs hx c (i + 1) j2 (by omega)
def cnt (p : Nat → Bool) (n : Nat) : Nat := itr (fun i c => if p i = true then c + 1 else c) 0 n 0
theorem cnt_s (p : Nat → Bool) (n : Nat) : cnt p (n + 1) = if p n = true then cnt p n + 1 else cnt p n := by
  unfold cnt
  rw [itr_succ]
  simp only [Nat.zero_add]
theorem cnt_le (p : Nat → Bool) : ∀ n, cnt p n ≤ n
  | 0 => Nat.le_refl _
  | n + 1 => by
    rw [cnt_s]
    have := cnt_le p n
    split <;> omega
theorem cnt_all (p : Nat → Bool) : ∀ n, cnt p n = n ↔ ∀ i, i < n → p i = true
  | 0 => ⟨fun _ i hi => absurd hi (by omega), fun _ => rfl⟩
  | n + 1 => by
    rw [cnt_s]
    have h1 := cnt_le p n
    have h2 := cnt_all p n
    by_cases hp : p n = true
    · rw [if_pos hp]
      constructor
      · intro e i hi
        by_cases hin : i = n
        · rw [hin]; exact hp
        · exact h2.mp (by omega) i (by omega)
      · intro e
        rw [h2.mpr (fun i hi => e i (by omega))]
    · rw [if_neg hp]
      constructor
      · intro e; omega
      · intro e; exact absurd (e n (by omega)) hp
theorem cnt_cg {p q : Nat → Bool} {n : Nat} (e : ∀ i, i < n → p i = q i) : cnt p n = cnt q n := by
  unfold cnt
  exact itr_congr n 0 0 (fun j t _ hj => by rw [e j (by omega)])
def alb (p : Nat → Bool) (n : Nat) : Bool := itr (fun i b => if p i = true then b else false) 0 n true
theorem alb_iff (p : Nat → Bool) : ∀ n, alb p n = true ↔ ∀ i, i < n → p i = true
  | 0 => ⟨fun _ i hi => absurd hi (by omega), fun _ => rfl⟩
  | n + 1 => by
    have h2 := alb_iff p n
    have e : alb p (n + 1) = if p n = true then alb p n else false := by
      unfold alb
      rw [itr_succ]
      simp only [Nat.zero_add]
    rw [e]
    by_cases hp : p n = true
    · rw [if_pos hp, h2]
      constructor
      · intro e i hi
        by_cases hin : i = n
        · rw [hin]; exact hp
        · exact e i (by omega)
      · intro e i hi; exact e i (by omega)
    · rw [if_neg hp]
      constructor
      · intro e; exact absurd e (by decide)
      · intro e; exact absurd (e n (by omega)) hp
def bI1 (b : Bool) : Int32 := if b = true then 1 else 0
/-! same, twins -/
theorem Q251 {rb dr : Nat} {jd : Option Nat} {h : rz_H} (w : Wf rb dr jd h) {k l F F2 : Nat} {g g2 : Nat → Nat} (q : Dq h k F g) (q2 : Dq h l F2 g2) (d : Nat) (x y : Int32) : cW (d + 3) 251 [rz_r (some (5 + 3 * k)), rz_r (some (5 + 3 * l)), rz_i x, rz_i y] h = some (rz_i (nI (cnt (fun i => decide (Gp F g (nI i) = Gp F2 g2 (x + y * nI i))) F)), h) := by
  have hF := q.2.2.1
  rw [E251]
  refine Eq.trans (lp_i0 (fun i c => rW (d + 2) 251 (4, (0, 0), [some (rz_r (some (5 + 3 * k))), some (rz_r (some (5 + 3 * l))), some (rz_i x), some (rz_i y), some (rz_i (nI c)), some (rz_i (nI i))], [], h)) (fun i c => if decide (Gp F g (nI i) = Gp F2 g2 (x + y * nI i)) = true then c + 1 else c) F 0 (fun i c hi => ?_)) ?_
  · skip
    rw [E251_4]
    by_cases hq : Gp F g (nI i) = Gp F2 g2 (x + y * nI i) <;> simp (disch := omega) only [bI_some, bV_some, bR_some, bL_some, ob_some, cd_t, cd_f, cd_d, okO_setI, okA_setI, okL_setI, aLen_setI, hR_setI, hI_setI, Bool.true_and, Bool.and_true, Bool.and_self, Option.isNone_some, Option.isSome_some, Option.isNone_none, Option.isSome_none, okO_chI, okA_chI, okL_chI, aLen_chI, hR_chI, ↓reduceIte, not_true_eq_false, not_false_eq_true, eq_self, c10, Nat.zero_add, nI_add, litA, litB, litM, nI_mul, nI_leI, nI_ltI, nI_eq, litLe, litLe2, litLt, litLt2, litEq, litEq2, in_nI, lit_in, nI_clamp, lit_cl, if_pos, if_neg, WD w (isD_3 q.1), WD w (isD_3 q2.1), Q136 w q, Q144 w q, Q144 w q2, hq, decide_true, decide_false, Bool.false_eq_true]
  · skip
    rw [E251_4]
    simp (disch := omega) only [bI_some, bV_some, bR_some, bL_some, ob_some, cd_t, cd_f, cd_d, okO_setI, okA_setI, okL_setI, aLen_setI, hR_setI, hI_setI, Bool.true_and, Bool.and_true, Bool.and_self, Option.isNone_some, Option.isSome_some, Option.isNone_none, Option.isSome_none, okO_chI, okA_chI, okL_chI, aLen_chI, hR_chI, ↓reduceIte, not_true_eq_false, not_false_eq_true, eq_self, c10, Nat.zero_add, nI_add, litA, litB, litM, nI_mul, nI_leI, nI_ltI, nI_eq, litLe, litLe2, litLt, litLt2, litEq, litEq2, in_nI, lit_in, nI_clamp, lit_cl, if_pos, if_neg, WD w (isD_3 q.1), Q136 w q]
    rfl
theorem Q252 {rb dr : Nat} {jd : Option Nat} {h : rz_H} (w : Wf rb dr jd h) {k l F : Nat} {g g2 : Nat → Nat} (q : Dq h k F g) (q2 : Dq h l F g2) (d : Nat) (y : Int32) : cW (d + 4) 252 [rz_r (some (5 + 3 * k)), rz_r (some (5 + 3 * l)), rz_i y] h = oel (fun r => some (rz_i (nI r), h)) (some (rz_i (-2), h)) (fst (fun r => decide (∀ i, i < F → Gp F g (nI i) = Gp F g2 (nI r + y * nI i))) 0 F) := by
  have hF := q.2.2.1
  rw [E252]
  simp (disch := omega) only [bI_some, bV_some, bR_some, bL_some, ob_some, cd_t, cd_f, cd_d, okO_setI, okA_setI, okL_setI, aLen_setI, hR_setI, hI_setI, Bool.true_and, Bool.and_true, Bool.and_self, Option.isNone_some, Option.isSome_some, Option.isNone_none, Option.isSome_none, okO_chI, okA_chI, okL_chI, aLen_chI, hR_chI, ↓reduceIte, not_true_eq_false, not_false_eq_true, eq_self, c10, Nat.zero_add, nI_add, litA, litB, litM, nI_mul, nI_leI, nI_ltI, nI_eq, litLe, litLe2, litLt, litLt2, litEq, litEq2, in_nI, lit_in, nI_clamp, lit_cl, if_pos, if_neg, WD w (isD_3 q.1), WD w (isD_3 q2.1), Q136 w q, Q136 w q2]
  refine lp_jf (τ := Unit) (fun r _ => rW (d + 3) 252 (9, (0, 0), [some (rz_r (some (5 + 3 * k))), some (rz_r (some (5 + 3 * l))), some (rz_i y), some (rz_i (nI r))], [], h)) _ _ _ F (fun r _ hr => ⟨fun hp => ?_, fun hp => ⟨(), ?_⟩⟩) (fun _ => ?_) F 0 () (by omega)
  · skip
    have hp := of_decide_eq_true hp
    have hc := (cnt_all (fun i => decide (Gp F g (nI i) = Gp F g2 (nI r + y * nI i))) F).mpr (fun i hi => decide_eq_true (hp i hi))
    rw [E252_9]
    simp (disch := omega) only [bI_some, bV_some, bR_some, bL_some, ob_some, cd_t, cd_f, cd_d, okO_setI, okA_setI, okL_setI, aLen_setI, hR_setI, hI_setI, Bool.true_and, Bool.and_true, Bool.and_self, Option.isNone_some, Option.isSome_some, Option.isNone_none, Option.isSome_none, okO_chI, okA_chI, okL_chI, aLen_chI, hR_chI, ↓reduceIte, not_true_eq_false, not_false_eq_true, eq_self, c10, Nat.zero_add, nI_add, litA, litB, litM, nI_mul, nI_leI, nI_ltI, nI_eq, litLe, litLe2, litLt, litLt2, litEq, litEq2, in_nI, lit_in, nI_clamp, lit_cl, if_pos, if_neg, WD w (isD_3 q.1), WD w (isD_3 q2.1), Q136 w q, Q136 w q2, Q251 w q q2, hc]
  · skip
    have hp := of_decide_eq_false hp
    have hc : ¬ cnt (fun i => decide (Gp F g (nI i) = Gp F g2 (nI r + y * nI i))) F = F := fun e => hp (fun i hi => of_decide_eq_true ((cnt_all _ F).mp e i hi))
    have hl := cnt_le (fun i => decide (Gp F g (nI i) = Gp F g2 (nI r + y * nI i))) F
    rw [E252_9]
    simp (disch := omega) only [bI_some, bV_some, bR_some, bL_some, ob_some, cd_t, cd_f, cd_d, okO_setI, okA_setI, okL_setI, aLen_setI, hR_setI, hI_setI, Bool.true_and, Bool.and_true, Bool.and_self, Option.isNone_some, Option.isSome_some, Option.isNone_none, Option.isSome_none, okO_chI, okA_chI, okL_chI, aLen_chI, hR_chI, ↓reduceIte, not_true_eq_false, not_false_eq_true, eq_self, c10, Nat.zero_add, nI_add, litA, litB, litM, nI_mul, nI_leI, nI_ltI, nI_eq, litLe, litLe2, litLt, litLt2, litEq, litEq2, in_nI, lit_in, nI_clamp, lit_cl, if_pos, if_neg, WD w (isD_3 q.1), WD w (isD_3 q2.1), Q136 w q, Q136 w q2, Q251 w q q2, hc]
  · skip
    rw [E252_9]
    simp (disch := omega) only [bI_some, bV_some, bR_some, bL_some, ob_some, cd_t, cd_f, cd_d, okO_setI, okA_setI, okL_setI, aLen_setI, hR_setI, hI_setI, Bool.true_and, Bool.and_true, Bool.and_self, Option.isNone_some, Option.isSome_some, Option.isNone_none, Option.isSome_none, okO_chI, okA_chI, okL_chI, aLen_chI, hR_chI, ↓reduceIte, not_true_eq_false, not_false_eq_true, eq_self, c10, Nat.zero_add, nI_add, litA, litB, litM, nI_mul, nI_leI, nI_ltI, nI_eq, litLe, litLe2, litLt, litLt2, litEq, litEq2, in_nI, lit_in, nI_clamp, lit_cl, if_pos, if_neg, WD w (isD_3 q.1), WD w (isD_3 q2.1), Q136 w q, Q136 w q2]
theorem Q97a {rb dr : Nat} {jd : Option Nat} {h : rz_H} (w : Wf rb dr jd h) {k l F : Nat} {g g2 : Nat → Nat} (q : Dq h k F g) (q2 : Dq h l F g2) (d r : Nat) (z : Int32) (u : Nat → Int32) (hu : ∀ i, (if z = 0 then nI r + nI i else nI r - nI i) = u i) : rW (d + 2) 97 (27, (0, 0), [some (rz_r (some 109)), some (rz_i (nI k)), some (rz_i (nI l)), some (rz_i z), some (rz_i (nI F)), some (rz_i (nI r)), some (rz_i 1), some (rz_i 0)], [], h) = rW (d + 2) 97 (27, (0, 0), [some (rz_r (some 109)), some (rz_i (nI k)), some (rz_i (nI l)), some (rz_i z), some (rz_i (nI F)), some (rz_i (nI r)), some (rz_i (bI1 (alb (fun i => decide (Gp F g (nI i) = Gp F g2 (u i))) F))), some (rz_i (nI F))], [], h) := by
  have hF := q.2.2.1
  refine Eq.trans (lp_i0 (fun i b => rW (d + 2) 97 (27, (0, 0), [some (rz_r (some 109)), some (rz_i (nI k)), some (rz_i (nI l)), some (rz_i z), some (rz_i (nI F)), some (rz_i (nI r)), some (rz_i (bI1 b)), some (rz_i (nI i))], [], h)) (fun i b => if decide (Gp F g (nI i) = Gp F g2 (u i)) = true then b else false) F true (fun i b hi => ?_)) ?_
  · skip
    rw [E97_27]
    have hu := hu i
    by_cases hz : z = 0
    · rw [if_pos hz] at hu
      by_cases hq : Gp F g (nI i) = Gp F g2 (u i) <;> simp (disch := omega) only [bI_some, bV_some, bR_some, bL_some, ob_some, cd_t, cd_f, cd_d, okO_setI, okA_setI, okL_setI, aLen_setI, hR_setI, hI_setI, Bool.true_and, Bool.and_true, Bool.and_self, Option.isNone_some, Option.isSome_some, Option.isNone_none, Option.isSome_none, okO_chI, okA_chI, okL_chI, aLen_chI, hR_chI, nI_1, nI_leI, if_pos, if_neg, hu, hz, WMd w, Q42 w q, Q42 w q2, hq, decide_true, decide_false, Bool.false_eq_true, ↓reduceIte]
      rfl
    · rw [if_neg hz] at hu
      by_cases hq : Gp F g (nI i) = Gp F g2 (u i) <;> simp (disch := omega) only [bI_some, bV_some, bR_some, bL_some, ob_some, cd_t, cd_f, cd_d, okO_setI, okA_setI, okL_setI, aLen_setI, hR_setI, hI_setI, Bool.true_and, Bool.and_true, Bool.and_self, Option.isNone_some, Option.isSome_some, Option.isNone_none, Option.isSome_none, okO_chI, okA_chI, okL_chI, aLen_chI, hR_chI, nI_1, nI_leI, if_pos, if_neg, hu, hz, WMd w, Q42 w q, Q42 w q2, hq, decide_true, decide_false, Bool.false_eq_true, ↓reduceIte]
      rfl
  · rfl
theorem Q97 {rb dr : Nat} {jd : Option Nat} {h : rz_H} (w : Wf rb dr jd h) {k l F : Nat} {g g2 : Nat → Nat} (q : Dq h k F g) (q2 : Dq h l F g2) (d : Nat) (z : Int32) (u : Nat → Nat → Int32) (hu : ∀ r i, (if z = 0 then nI r + nI i else nI r - nI i) = u r i) : cW (d + 4) 97 [rz_r (some 109), rz_i (nI k), rz_i (nI l), rz_i z] h = oel (fun r => some (rz_i (nI r), h)) (some (rz_i (-2), h)) (fst (fun r => decide (∀ i, i < F → Gp F g (nI i) = Gp F g2 (u r i))) 0 F) := by
  have hF := q.2.2.1
  rw [E97]
  simp (disch := omega) only [bI_some, bV_some, bR_some, bL_some, ob_some, cd_t, cd_f, cd_d, okO_setI, okA_setI, okL_setI, aLen_setI, hR_setI, hI_setI, Bool.true_and, Bool.and_true, Bool.and_self, Option.isNone_some, Option.isSome_some, Option.isNone_none, Option.isSome_none, okO_chI, okA_chI, okL_chI, aLen_chI, hR_chI, ↓reduceIte, not_true_eq_false, not_false_eq_true, eq_self, c10, Nat.zero_add, nI_add, litA, litB, litM, nI_mul, nI_leI, nI_ltI, nI_eq, litLe, litLe2, litLt, litLt2, litEq, litEq2, in_nI, lit_in, nI_clamp, lit_cl, if_pos, if_neg, WMd w, Q40 w q q2, Q41 w q, Q41 w q2]
  refine lp_jf (τ := Option rz_V × Option rz_V) (fun r j => rW (d + 3) 97 (20, (0, 0), [some (rz_r (some 109)), some (rz_i (nI k)), some (rz_i (nI l)), some (rz_i z), some (rz_i (nI F)), some (rz_i (nI r)), j.1, j.2], [], h)) _ _ _ F (fun r j hr => ?_) (fun j => ?_) F 0 (none, none) (by omega)
  · have e1 : rW (d + 3) 97 (20, (0, 0), [some (rz_r (some 109)), some (rz_i (nI k)), some (rz_i (nI l)), some (rz_i z), some (rz_i (nI F)), some (rz_i (nI r)), j.1, j.2], [], h) = rW (d + 3) 97 (27, (0, 0), [some (rz_r (some 109)), some (rz_i (nI k)), some (rz_i (nI l)), some (rz_i z), some (rz_i (nI F)), some (rz_i (nI r)), some (rz_i (bI1 (alb (fun i => decide (Gp F g (nI i) = Gp F g2 (u r i))) F))), some (rz_i (nI F))], [], h) := by
      rw [E97_20]
      simp (disch := omega) only [bI_some, bV_some, bR_some, bL_some, ob_some, cd_t, cd_f, cd_d, okO_setI, okA_setI, okL_setI, aLen_setI, hR_setI, hI_setI, Bool.true_and, Bool.and_true, Bool.and_self, Option.isNone_some, Option.isSome_some, Option.isNone_none, Option.isSome_none, okO_chI, okA_chI, okL_chI, aLen_chI, hR_chI, ↓reduceIte, not_true_eq_false, not_false_eq_true, eq_self, c10, Nat.zero_add, nI_add, litA, litB, litM, nI_mul, nI_leI, nI_ltI, nI_eq, litLe, litLe2, litLt, litLt2, litEq, litEq2, in_nI, lit_in, nI_clamp, lit_cl, if_pos, if_neg]
      rw [Q97a w q q2 (d + 1) r z (u r) (hu r)]
    have hi := alb_iff (fun i => decide (Gp F g (nI i) = Gp F g2 (u r i))) F
    refine ⟨fun hp => ?_, fun hp => ⟨(some (rz_i 0), some (rz_i (nI F))), ?_⟩⟩
    · have hp := of_decide_eq_true hp
      rw [e1, E97_27, hi.mpr (fun i hi => decide_eq_true (hp i hi))]
      simp (disch := omega) only [bI_some, bV_some, bR_some, bL_some, ob_some, cd_t, cd_f, cd_d, okO_setI, okA_setI, okL_setI, aLen_setI, hR_setI, hI_setI, Bool.true_and, Bool.and_true, Bool.and_self, Option.isNone_some, Option.isSome_some, Option.isNone_none, Option.isSome_none, okO_chI, okA_chI, okL_chI, aLen_chI, hR_chI, ↓reduceIte, not_true_eq_false, not_false_eq_true, eq_self, c10, Nat.zero_add, nI_add, litA, litB, litM, nI_mul, nI_leI, nI_ltI, nI_eq, litLe, litLe2, litLt, litLt2, litEq, litEq2, in_nI, lit_in, nI_clamp, lit_cl, if_pos, if_neg, bI1]
    · have hp := of_decide_eq_false hp
      have : alb (fun i => decide (Gp F g (nI i) = Gp F g2 (u r i))) F = false := by
        rw [← Bool.not_eq_true, hi]
        exact fun e => hp (fun i hi => of_decide_eq_true (e i hi))
      rw [e1, E97_27, this]
      simp (disch := omega) only [bI_some, bV_some, bR_some, bL_some, ob_some, cd_t, cd_f, cd_d, okO_setI, okA_setI, okL_setI, aLen_setI, hR_setI, hI_setI, Bool.true_and, Bool.and_true, Bool.and_self, Option.isNone_some, Option.isSome_some, Option.isNone_none, Option.isSome_none, okO_chI, okA_chI, okL_chI, aLen_chI, hR_chI, ↓reduceIte, not_true_eq_false, not_false_eq_true, eq_self, c10, Nat.zero_add, nI_add, litA, litB, litM, nI_mul, nI_leI, nI_ltI, nI_eq, litLe, litLe2, litLt, litLt2, litEq, litEq2, in_nI, lit_in, nI_clamp, lit_cl, if_pos, if_neg, bI1, Bool.false_eq_true]
  · skip
    rw [E97_20]
    simp (disch := omega) only [bI_some, bV_some, bR_some, bL_some, ob_some, cd_t, cd_f, cd_d, okO_setI, okA_setI, okL_setI, aLen_setI, hR_setI, hI_setI, Bool.true_and, Bool.and_true, Bool.and_self, Option.isNone_some, Option.isSome_some, Option.isNone_none, Option.isSome_none, okO_chI, okA_chI, okL_chI, aLen_chI, hR_chI, ↓reduceIte, not_true_eq_false, not_false_eq_true, eq_self, c10, Nat.zero_add, nI_add, litA, litB, litM, nI_mul, nI_leI, nI_ltI, nI_eq, litLe, litLe2, litLt, litLt2, litEq, litEq2, in_nI, lit_in, nI_clamp, lit_cl, if_pos, if_neg]
theorem fst_same {p q : Nat → Bool} {n : Nat} (e : ∀ i, i < n → p i = q i) : fst p 0 n = fst q 0 n := fst_congr n 0 (fun j _ hj => e j (by omega))
theorem oel_i {o : Option Nat} {h : rz_H} {x : Int32} : oel (fun r => some (rz_i (nI r), h)) (some (rz_i x, h)) o = some (rz_i (oel nI x o), h) := by
  cases o <;> rfl
theorem m1_mul (x y : Int32) : x + (-1) * y = x - y := by
  rw [Int32.neg_mul, Int32.one_mul, Int32.sub_eq_add_neg]
theorem P12 (x y z : Int32) : Pr Rel 12 97 [rz_i x, rz_i y, rz_i (if z = 0 then 0 else 1)] := by
  intro h r
  obtain ⟨rb, dr, jd, w, r1, r2, r3, r4, r5⟩ := id r
  rcases tld r1 r2 x with ⟨k, F, g, rfl, q⟩ | n
  · rcases tld r1 r2 y with ⟨l, F2, g2, rfl, q2⟩ | n2
    · have hF := q.2.2.1
      have hF2 := q2.2.2.1
      by_cases hFF : F = F2
      · subst hFF
        by_cases hz : z = 0
        · refine ⟨oel nI (-2) (fst (fun r => decide (∀ i, i < F → Gp F g (nI i) = Gp F g2 (nI r + nI i))) 0 F), h, h, ?_, ?_, (WMd w).1, r⟩
          · rw [show DD = 99 + 1 from rfl, E12]
            simp only [bI_some, bV_some, bR_some, bL_some, ob_some, cd_t, cd_f, cd_d, okO_setI, okA_setI, okL_setI, aLen_setI, hR_setI, hI_setI, Bool.true_and, Bool.and_true, Bool.and_self, Option.isNone_some, Option.isSome_some, Option.isNone_none, Option.isSome_none, okO_chI, okA_chI, okL_chI, aLen_chI, hR_chI, ↓reduceIte, not_true_eq_false, not_false_eq_true, eq_self, c10, WRt w, Q181 w q, Q181 w q2, Q252 w q q2, oel_i, hz, Int32.one_mul]
          · rw [show DD = 99 + 1 from rfl, Q97 w q q2 96 _ (fun r i => nI r + nI i) (fun r i => by rw [if_pos hz]; rfl), oel_i]
        · refine ⟨oel nI (-2) (fst (fun r => decide (∀ i, i < F → Gp F g (nI i) = Gp F g2 (nI r - nI i))) 0 F), h, h, ?_, ?_, (WMd w).1, r⟩
          · rw [show DD = 99 + 1 from rfl, E12]
            simp only [bI_some, bV_some, bR_some, bL_some, ob_some, cd_t, cd_f, cd_d, okO_setI, okA_setI, okL_setI, aLen_setI, hR_setI, hI_setI, Bool.true_and, Bool.and_true, Bool.and_self, Option.isNone_some, Option.isSome_some, Option.isNone_none, Option.isSome_none, okO_chI, okA_chI, okL_chI, aLen_chI, hR_chI, ↓reduceIte, not_true_eq_false, not_false_eq_true, eq_self, c10, WRt w, Q181 w q, Q181 w q2, Q252 w q q2, oel_i, if_neg hz, m1_mul]
          · rw [show DD = 99 + 1 from rfl, Q97 w q q2 96 _ (fun r i => nI r - nI i) (fun r i => by rw [if_neg hz]; rfl), oel_i]
      · refine ⟨-2, h, h, ?_, ?_, (WMd w).1, r⟩
        · rw [show DD = 99 + 1 from rfl, E12]
          by_cases hz : z = 0
          · simp only [bI_some, bV_some, bR_some, bL_some, ob_some, cd_t, cd_f, cd_d, okO_setI, okA_setI, okL_setI, aLen_setI, hR_setI, hI_setI, Bool.true_and, Bool.and_true, Bool.and_self, Option.isNone_some, Option.isSome_some, Option.isNone_none, Option.isSome_none, okO_chI, okA_chI, okL_chI, aLen_chI, hR_chI, ↓reduceIte, not_true_eq_false, not_false_eq_true, eq_self, c10, WRt w, Q181 w q, Q181 w q2, hz]
            rw [E252]
            simp (disch := omega) only [bI_some, bV_some, bR_some, bL_some, ob_some, cd_t, cd_f, cd_d, okO_setI, okA_setI, okL_setI, aLen_setI, hR_setI, hI_setI, Bool.true_and, Bool.and_true, Bool.and_self, Option.isNone_some, Option.isSome_some, Option.isNone_none, Option.isSome_none, okO_chI, okA_chI, okL_chI, aLen_chI, hR_chI, ↓reduceIte, not_true_eq_false, not_false_eq_true, eq_self, c10, Nat.zero_add, nI_add, litA, litB, litM, nI_mul, nI_leI, nI_ltI, nI_eq, litLe, litLe2, litLt, litLt2, litEq, litEq2, in_nI, lit_in, nI_clamp, lit_cl, if_pos, if_neg, WD w (isD_3 q.1), WD w (isD_3 q2.1), Q136 w q, Q136 w q2]
          · simp only [bI_some, bV_some, bR_some, bL_some, ob_some, cd_t, cd_f, cd_d, okO_setI, okA_setI, okL_setI, aLen_setI, hR_setI, hI_setI, Bool.true_and, Bool.and_true, Bool.and_self, Option.isNone_some, Option.isSome_some, Option.isNone_none, Option.isSome_none, okO_chI, okA_chI, okL_chI, aLen_chI, hR_chI, ↓reduceIte, not_true_eq_false, not_false_eq_true, eq_self, c10, WRt w, Q181 w q, Q181 w q2, if_neg hz]
            rw [E252]
            simp (disch := omega) only [bI_some, bV_some, bR_some, bL_some, ob_some, cd_t, cd_f, cd_d, okO_setI, okA_setI, okL_setI, aLen_setI, hR_setI, hI_setI, Bool.true_and, Bool.and_true, Bool.and_self, Option.isNone_some, Option.isSome_some, Option.isNone_none, Option.isSome_none, okO_chI, okA_chI, okL_chI, aLen_chI, hR_chI, ↓reduceIte, not_true_eq_false, not_false_eq_true, eq_self, c10, Nat.zero_add, nI_add, litA, litB, litM, nI_mul, nI_leI, nI_ltI, nI_eq, litLe, litLe2, litLt, litLt2, litEq, litEq2, in_nI, lit_in, nI_clamp, lit_cl, if_pos, if_neg, WD w (isD_3 q.1), WD w (isD_3 q2.1), Q136 w q, Q136 w q2]
        · rw [show DD = 99 + 1 from rfl, E97]
          simp (disch := omega) only [bI_some, bV_some, bR_some, bL_some, ob_some, cd_t, cd_f, cd_d, okO_setI, okA_setI, okL_setI, aLen_setI, hR_setI, hI_setI, Bool.true_and, Bool.and_true, Bool.and_self, Option.isNone_some, Option.isSome_some, Option.isNone_none, Option.isSome_none, okO_chI, okA_chI, okL_chI, aLen_chI, hR_chI, ↓reduceIte, not_true_eq_false, not_false_eq_true, eq_self, c10, Nat.zero_add, nI_add, litA, litB, litM, nI_mul, nI_leI, nI_ltI, nI_eq, litLe, litLe2, litLt, litLt2, litEq, litEq2, in_nI, lit_in, nI_clamp, lit_cl, if_pos, if_neg, WMd w, Q40 w q q2, Q41 w q, Q41 w q2]
    · refine ⟨-1, h, h, ?_, ?_, (WMd w).1, r⟩
      · rw [show DD = 99 + 1 from rfl, E12]
        simp only [bI_some, bV_some, bR_some, bL_some, ob_some, cd_t, cd_f, cd_d, okO_setI, okA_setI, okL_setI, aLen_setI, hR_setI, hI_setI, Bool.true_and, Bool.and_true, Bool.and_self, Option.isNone_some, Option.isSome_some, Option.isNone_none, Option.isSome_none, okO_chI, okA_chI, okL_chI, aLen_chI, hR_chI, ↓reduceIte, not_true_eq_false, not_false_eq_true, eq_self, c10, WRt w, Q181 w q, N181 w n2]
      · rw [show DD = 99 + 1 from rfl, E97]
        simp only [bI_some, bV_some, bR_some, bL_some, ob_some, cd_t, cd_f, cd_d, okO_setI, okA_setI, okL_setI, aLen_setI, hR_setI, hI_setI, Bool.true_and, Bool.and_true, Bool.and_self, Option.isNone_some, Option.isSome_some, Option.isNone_none, Option.isSome_none, okO_chI, okA_chI, okL_chI, aLen_chI, hR_chI, ↓reduceIte, not_true_eq_false, not_false_eq_true, eq_self, c10, WMd w, N40b w q n2]
  · refine ⟨-1, h, h, ?_, ?_, (WMd w).1, r⟩
    · rw [show DD = 99 + 1 from rfl, E12]
      rcases tld r1 r2 y with ⟨l, F2, g2, rfl, q2⟩ | n2
      · simp only [bI_some, bV_some, bR_some, bL_some, ob_some, cd_t, cd_f, cd_d, okO_setI, okA_setI, okL_setI, aLen_setI, hR_setI, hI_setI, Bool.true_and, Bool.and_true, Bool.and_self, Option.isNone_some, Option.isSome_some, Option.isNone_none, Option.isSome_none, okO_chI, okA_chI, okL_chI, aLen_chI, hR_chI, ↓reduceIte, not_true_eq_false, not_false_eq_true, eq_self, c10, WRt w, N181 w n, Q181 w q2]
      · simp only [bI_some, bV_some, bR_some, bL_some, ob_some, cd_t, cd_f, cd_d, okO_setI, okA_setI, okL_setI, aLen_setI, hR_setI, hI_setI, Bool.true_and, Bool.and_true, Bool.and_self, Option.isNone_some, Option.isSome_some, Option.isNone_none, Option.isSome_none, okO_chI, okA_chI, okL_chI, aLen_chI, hR_chI, ↓reduceIte, not_true_eq_false, not_false_eq_true, eq_self, c10, WRt w, N181 w n, N181 w n2]
    · rw [show DD = 99 + 1 from rfl, E97]
      simp only [bI_some, bV_some, bR_some, bL_some, ob_some, cd_t, cd_f, cd_d, okO_setI, okA_setI, okL_setI, aLen_setI, hR_setI, hI_setI, Bool.true_and, Bool.and_true, Bool.and_self, Option.isNone_some, Option.isSome_some, Option.isNone_none, Option.isSome_none, okO_chI, okA_chI, okL_chI, aLen_chI, hR_chI, ↓reduceIte, not_true_eq_false, not_false_eq_true, eq_self, c10, WMd w, N40a w n]
