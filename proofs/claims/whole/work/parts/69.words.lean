/-! twins, common, words -/
theorem fst_none {p : Nat → Bool} : ∀ (c i : Nat), fst p i c = none → ∀ j, i ≤ j → j < i + c → p j = false
  | 0, i, _, j, h1, h2 => absurd h2 (by omega)
  | c + 1, i, h, j, h1, h2 => by
    unfold fst at h
    by_cases hp : p i = true
    · rw [if_pos hp] at h; exact absurd h (by simp)
    · rw [if_neg hp] at h
      by_cases e : j = i
      · rw [e]; simpa using hp
      · exact fst_none c (i + 1) h j (by omega) (by omega)
theorem fst_some {p : Nat → Bool} : ∀ (c i j : Nat), fst p i c = some j → i ≤ j ∧ j < i + c ∧ p j = true ∧ ∀ m, i ≤ m → m < j → p m = false
  | 0, i, j, h => by unfold fst at h; exact absurd h (by simp)
  | c + 1, i, j, h => by
    unfold fst at h
    by_cases hp : p i = true
    · rw [if_pos hp] at h
      have : i = j := by simpa using h
      subst this
      exact ⟨Nat.le_refl _, by omega, hp, fun m h1 h2 => absurd h1 (by omega)⟩
    · rw [if_neg hp] at h
      obtain ⟨h1, h2, h3, h4⟩ := fst_some c (i + 1) j h
      refine ⟨by omega, by omega, h3, fun m m1 m2 => ?_⟩
      by_cases e : m = i
      · rw [e]; simpa using hp
      · exact h4 m (by omega) m2
theorem fst_is {p : Nat → Bool} {j : Nat} : ∀ (c i : Nat), i ≤ j → j < i + c → p j = true → (∀ m, i ≤ m → m < j → p m = false) → fst p i c = some j
  | 0, i, h1, h2, _, _ => absurd h2 (by omega)
  | c + 1, i, h1, h2, h3, h4 => by
    unfold fst
    by_cases e : i = j
    · subst e; rw [if_pos h3]
    · rw [if_neg (by rw [h4 i (Nat.le_refl _) (by omega)]; decide)]
      exact fst_is c (i + 1) (by omega) (by omega) h3 (fun m m1 m2 => h4 m (by omega) m2)
theorem fst_no {p : Nat → Bool} : ∀ (c i : Nat), (∀ j, i ≤ j → j < i + c → p j = false) → fst p i c = none
  | 0, i, _ => rfl
  | c + 1, i, h => by
    unfold fst
    rw [if_neg (by rw [h i (Nat.le_refl _) (by omega)]; decide)]
    exact fst_no c (i + 1) (fun j h1 h2 => h j (by omega) (by omega))
def mx (x y : Int32) : Int32 := if x < y then y else x
def mn (x y : Int32) : Int32 := if y < x then y else x
theorem S35 (d : Nat) (h : rz_H) (x y : Int32) : cW (d + 1) 35 [rz_i x, rz_i y] h = some (rz_i (mx x y), h) := by
  rw [E35]
  unfold mx
  simp only [bI_some, bV_some, bR_some, bL_some, ob_some, cd_t, cd_f, cd_d, okO_setI, okA_setI, okL_setI, aLen_setI, hR_setI, hI_setI, Bool.true_and, Bool.and_true, Bool.and_self, Option.isNone_some, Option.isSome_some, Option.isNone_none, Option.isSome_none, okO_chI, okA_chI, okL_chI, aLen_chI, hR_chI, ↓reduceIte, not_true_eq_false, not_false_eq_true, eq_self, c10]
  by_cases h1 : x < y
  · rw [if_pos h1, if_pos (Int32.le_of_lt h1)]
  · rw [if_neg h1]
    by_cases h2 : x ≤ y
    · rw [if_pos h2, Int32.le_antisymm h2 (Int32.not_lt.mp h1)]
    · rw [if_neg h2]
theorem S34 (d : Nat) (h : rz_H) (x y : Int32) : cW (d + 1) 34 [rz_i x, rz_i y] h = some (rz_i (mn x y), h) := by
  rw [E34]
  unfold mn
  simp only [bI_some, bV_some, bR_some, bL_some, ob_some, cd_t, cd_f, cd_d, okO_setI, okA_setI, okL_setI, aLen_setI, hR_setI, hI_setI, Bool.true_and, Bool.and_true, Bool.and_self, Option.isNone_some, Option.isSome_some, Option.isNone_none, Option.isSome_none, okO_chI, okA_chI, okL_chI, aLen_chI, hR_chI, ↓reduceIte, not_true_eq_false, not_false_eq_true, eq_self, c10]
  by_cases h1 : y < x
  · rw [if_pos h1, if_pos (Int32.le_of_lt h1)]
  · rw [if_neg h1]
    by_cases h2 : y ≤ x
    · rw [if_pos h2, Int32.le_antisymm h2 (Int32.not_lt.mp h1)]
    · rw [if_neg h2]
theorem T277 (d : Nat) (h : rz_H) (x y : Int32) : cW (d + 1) 277 [rz_i x, rz_i y] h = some (rz_i (mx x y), h) := S277 d h x y
theorem T278 (d : Nat) (h : rz_H) (x y : Int32) : cW (d + 1) 278 [rz_i x, rz_i y] h = some (rz_i (mn x y), h) := S278 d h x y
theorem mn_nI {a b : Nat} (ha : a < 2 ^ 31) (hb : b < 2 ^ 31) : mn (nI a) (nI b) = nI (min a b) := by
  unfold mn
  by_cases h : b < a
  · rw [if_pos (nI_lt h ha), Nat.min_eq_right (by omega)]
  · rw [if_neg (nI_nlt (by omega) hb), Nat.min_eq_left (by omega)]
theorem mx_nI {a b : Nat} (ha : a < 2 ^ 31) (hb : b < 2 ^ 31) : mx (nI a) (nI b) = nI (max a b) := by
  unfold mx
  by_cases h : a < b
  · rw [if_pos (nI_lt h hb), Nat.max_eq_right (by omega)]
  · rw [if_neg (nI_nlt (by omega) ha), Nat.max_eq_left (by omega)]
/-- twins' loop -/
def tw (c : Nat → Nat) (r : Nat) (s : Nat × Int32) : Nat × Int32 := if s.2 < nI (c r) then (r, nI (c r)) else s
theorem tw_in (c : Nat → Nat) (hc : ∀ r, c r < 2 ^ 31) : ∀ n, (itr (tw c) 0 (n + 1) (0, -1)).2 = nI (c (itr (tw c) 0 (n + 1) (0, -1)).1)
  | 0 => by
    show (tw c 0 (0, -1)).2 = nI (c (tw c 0 (0, -1)).1)
    unfold tw
    have : (-1 : Int32) < nI (c 0) := Int32.lt_of_lt_of_le (by decide) (nI_pos' (hc 0))
    simp only [this, if_true]
  | n + 1 => by
    have ih := tw_in c hc n
    rw [itr_succ]
    generalize itr (tw c) 0 (n + 1) (0, -1) = s at ih
    unfold tw
    by_cases h : s.2 < nI (c (0 + (n + 1)))
    · simp only [h, if_true]
    · simp only [h, if_false]; exact ih
def ali (G G2 : Int32 → Int32) (r i : Nat) : Bool := decide (G (nI i) = G2 (nI (r + i)))
theorem Q253 {rb dr : Nat} {jd : Option Nat} {h : rz_H} (w : Wf rb dr jd h) {k l F : Nat} {g g2 : Nat → Nat} (q : Dq h k F g) (q2 : Dq h l F g2) (d : Nat) : cW (d + 4) 253 [rz_r (some (5 + 3 * k)), rz_r (some (5 + 3 * l))] h = some (rz_i (nI (itr (tw fun r => cnt (ali (Gp F g) (Gp F g2) r) F) 0 F (0, -1)).1), h) := by
  have hF := q.2.2.1
  rw [E253]
  refine lp_j (fun r (s : Nat × Int32) j => rW (d + 3) 253 (6, (0, 0), [some (rz_r (some (5 + 3 * k))), some (rz_r (some (5 + 3 * l))), some (rz_i (nI s.1)), some (rz_i s.2), some (rz_i (nI r)), j], [], h)) (fun s => some (rz_i (nI s.1), h)) (tw fun r => cnt (ali (Gp F g) (Gp F g2) r) F) F (fun r s j hr => ?_) (fun s j => ?_) F 0 (0, -1) none (by omega)
  · refine ⟨some (rz_i (nI (cnt (ali (Gp F g) (Gp F g2) r) F))), ?_⟩
    have e : cnt (fun i => decide (Gp F g (nI i) = Gp F g2 (nI r + 1 * nI i))) F = cnt (ali (Gp F g) (Gp F g2) r) F := cnt_cg (fun i hi => by unfold ali; rw [Int32.one_mul, nI_add])
    rw [E253_6]
    unfold tw
    by_cases h1 : s.2 < nI (cnt (ali (Gp F g) (Gp F g2) r) F)
    · have h2 := Int32.not_le.mpr h1
      simp (disch := omega) only [bI_some, bV_some, bR_some, bL_some, ob_some, cd_t, cd_f, cd_d, okO_setI, okA_setI, okL_setI, aLen_setI, hR_setI, hI_setI, Bool.true_and, Bool.and_true, Bool.and_self, Option.isNone_some, Option.isSome_some, Option.isNone_none, Option.isSome_none, okO_chI, okA_chI, okL_chI, aLen_chI, hR_chI, ↓reduceIte, not_true_eq_false, not_false_eq_true, eq_self, c10, nI_1, nI_leI, if_neg, if_pos, WD w (isD_3 q2.1), Q136 w q2, Q251 w q q2, e, h1, h2]
    · have h2 := Int32.not_lt.mp h1
      simp (disch := omega) only [bI_some, bV_some, bR_some, bL_some, ob_some, cd_t, cd_f, cd_d, okO_setI, okA_setI, okL_setI, aLen_setI, hR_setI, hI_setI, Bool.true_and, Bool.and_true, Bool.and_self, Option.isNone_some, Option.isSome_some, Option.isNone_none, Option.isSome_none, okO_chI, okA_chI, okL_chI, aLen_chI, hR_chI, ↓reduceIte, not_true_eq_false, not_false_eq_true, eq_self, c10, nI_1, nI_leI, if_neg, if_pos, WD w (isD_3 q2.1), Q136 w q2, Q251 w q q2, e, h1, h2]
  · rw [E253_6]
    simp (disch := omega) only [bI_some, bV_some, bR_some, bL_some, ob_some, cd_t, cd_f, cd_d, okO_setI, okA_setI, okL_setI, aLen_setI, hR_setI, hI_setI, Bool.true_and, Bool.and_true, Bool.and_self, Option.isNone_some, Option.isSome_some, Option.isNone_none, Option.isSome_none, okO_chI, okA_chI, okL_chI, aLen_chI, hR_chI, ↓reduceIte, not_true_eq_false, not_false_eq_true, eq_self, c10, Nat.zero_add, nI_add, litA, litB, litM, nI_mul, nI_leI, nI_ltI, nI_eq, litLe, litLe2, litLt, litLt2, litEq, litEq2, in_nI, lit_in, nI_clamp, lit_cl, if_pos, if_neg, WD w (isD_3 q2.1), Q136 w q2]
theorem Q111 {rb dr : Nat} {jd : Option Nat} {h : rz_H} (w : Wf rb dr jd h) {k l F : Nat} {g g2 : Nat → Nat} (q : Dq h k F g) (q2 : Dq h l F g2) (d : Nat) (z : Int32) : rW (d + 2) 111 (29, (0, 0), [some (rz_r (some 109)), some (rz_i (nI k)), some (rz_i (nI l)), some (rz_i z), some (rz_i (nI F)), some (rz_i 0), some (rz_i (-1)), some (rz_i 0), none, none], [], h) = some (rz_i (if ¬ z = 0 then (itr (tw fun r => cnt (ali (Gp F g) (Gp F g2) r) F) 0 F (0, -1)).2 else nI (itr (tw fun r => cnt (ali (Gp F g) (Gp F g2) r) F) 0 F (0, -1)).1), h) := by
  have hF := q.2.2.1
  refine lp_j (fun r (s : Nat × Int32) j => rW (d + 2) 111 (29, (0, 0), [some (rz_r (some 109)), some (rz_i (nI k)), some (rz_i (nI l)), some (rz_i z), some (rz_i (nI F)), some (rz_i (nI s.1)), some (rz_i s.2), some (rz_i (nI r)), j.1, j.2], [], h)) (fun s => some (rz_i (if ¬ z = 0 then s.2 else nI s.1), h)) (tw fun r => cnt (ali (Gp F g) (Gp F g2) r) F) F (fun r s j hr => ?_) (fun s j => ?_) F 0 (0, -1) (none, none) (by omega)
  · refine ⟨(some (rz_i (nI (cnt (ali (Gp F g) (Gp F g2) r) F))), some (rz_i (nI F))), ?_⟩
    rw [E111_29]
    have hl : ¬ nI F ≤ nI r := nI_ge hr (by omega)
    simp only [bI_some, bV_some, bR_some, bL_some, ob_some, cd_t, cd_f, cd_d, okO_setI, okA_setI, okL_setI, aLen_setI, hR_setI, hI_setI, Bool.true_and, Bool.and_true, Bool.and_self, Option.isNone_some, Option.isSome_some, Option.isNone_none, Option.isSome_none, okO_chI, okA_chI, okL_chI, aLen_chI, hR_chI, ↓reduceIte, not_true_eq_false, not_false_eq_true, eq_self, c10, hl]
    refine Eq.trans (lp_i0 (fun i c => rW (d + 2) 111 (36, (0, 0), [some (rz_r (some 109)), some (rz_i (nI k)), some (rz_i (nI l)), some (rz_i z), some (rz_i (nI F)), some (rz_i (nI s.1)), some (rz_i s.2), some (rz_i (nI r)), some (rz_i (nI c)), some (rz_i (nI i))], [], h)) (fun i c => if ali (Gp F g) (Gp F g2) r i = true then c + 1 else c) F 0 (fun i c hi => ?_)) ?_
    · rw [E111_36]
      unfold ali
      rw [Nat.add_comm r i]
      by_cases hq : Gp F g (nI i) = Gp F g2 (nI (i + r)) <;> simp (disch := omega) only [bI_some, bV_some, bR_some, bL_some, ob_some, cd_t, cd_f, cd_d, okO_setI, okA_setI, okL_setI, aLen_setI, hR_setI, hI_setI, Bool.true_and, Bool.and_true, Bool.and_self, Option.isNone_some, Option.isSome_some, Option.isNone_none, Option.isSome_none, okO_chI, okA_chI, okL_chI, aLen_chI, hR_chI, ↓reduceIte, not_true_eq_false, not_false_eq_true, eq_self, c10, Nat.zero_add, nI_add, litA, litB, litM, nI_mul, nI_leI, nI_ltI, nI_eq, litLe, litLe2, litLt, litLt2, litEq, litEq2, in_nI, lit_in, nI_clamp, lit_cl, if_pos, if_neg, WMd w, Q42 w q, Q42 w q2, hq, decide_true, decide_false, Bool.false_eq_true]
    · rw [E111_36]
      unfold tw
      show _ = rW (d + 2) 111 (29, (0, 0), [some (rz_r (some 109)), some (rz_i (nI k)), some (rz_i (nI l)), some (rz_i z), some (rz_i (nI F)), some (rz_i (nI (if s.2 < nI (cnt (ali (Gp F g) (Gp F g2) r) F) then (r, nI (cnt (ali (Gp F g) (Gp F g2) r) F)) else s).1)), some (rz_i (if s.2 < nI (cnt (ali (Gp F g) (Gp F g2) r) F) then (r, nI (cnt (ali (Gp F g) (Gp F g2) r) F)) else s).2), some (rz_i (nI (r + 1))), some (rz_i (nI (cnt (ali (Gp F g) (Gp F g2) r) F))), some (rz_i (nI F))], [], h)
      rw [show itr (fun i c => if ali (Gp F g) (Gp F g2) r i = true then c + 1 else c) 0 F 0 = cnt (ali (Gp F g) (Gp F g2) r) F from rfl]
      by_cases h1 : s.2 < nI (cnt (ali (Gp F g) (Gp F g2) r) F) <;> simp (disch := omega) only [bI_some, bV_some, bR_some, bL_some, ob_some, cd_t, cd_f, cd_d, okO_setI, okA_setI, okL_setI, aLen_setI, hR_setI, hI_setI, Bool.true_and, Bool.and_true, Bool.and_self, Option.isNone_some, Option.isSome_some, Option.isNone_none, Option.isSome_none, okO_chI, okA_chI, okL_chI, aLen_chI, hR_chI, ↓reduceIte, not_true_eq_false, not_false_eq_true, eq_self, c10, nI_1, nI_leI, if_neg, if_pos, h1]
  · rw [E111_29]
    by_cases hz : z = 0 <;> simp (disch := omega) only [bI_some, bV_some, bR_some, bL_some, ob_some, cd_t, cd_f, cd_d, okO_setI, okA_setI, okL_setI, aLen_setI, hR_setI, hI_setI, Bool.true_and, Bool.and_true, Bool.and_self, Option.isNone_some, Option.isSome_some, Option.isNone_none, Option.isSome_none, okO_chI, okA_chI, okL_chI, aLen_chI, hR_chI, ↓reduceIte, not_true_eq_false, not_false_eq_true, eq_self, c10, nI_leI, if_pos, hz]
theorem P17 (x y z : Int32) : Pr Rel 17 111 [rz_i x, rz_i y, rz_i z] := by
  intro h r
  obtain ⟨rb, dr, jd, w, r1, r2, r3, r4, r5⟩ := id r
  rcases tld r1 r2 x with ⟨k, F, g, rfl, q⟩ | n
  · rcases tld r1 r2 y with ⟨l, F2, g2, rfl, q2⟩ | n2
    · have hF := q.2.2.1
      have hF0 := q.2.1
      have hF2 := q2.2.2.1
      by_cases hz : 0 ≤ z ∧ z ≤ 1
      · have hz1 := Int32.not_lt.mpr hz.1
        have hz2 := hz.2
        by_cases hFF : F = F2
        · subst hFF
          have hc : ∀ r, (fun r => cnt (ali (Gp F g) (Gp F g2) r) F) r < 2 ^ 31 := fun r => by
            have := cnt_le (ali (Gp F g) (Gp F g2) r) F
            show cnt (ali (Gp F g) (Gp F g2) r) F < 2 ^ 31
            omega
          have ti := tw_in (fun r => cnt (ali (Gp F g) (Gp F g2) r) F) hc (F - 1)
          rw [show F - 1 + 1 = F by omega] at ti
          refine ⟨if ¬ z = 0 then (itr (tw fun r => cnt (ali (Gp F g) (Gp F g2) r) F) 0 F (0, -1)).2 else nI (itr (tw fun r => cnt (ali (Gp F g) (Gp F g2) r) F) 0 F (0, -1)).1, h, h, ?_, ?_, (WMd w).1, r⟩
          · rw [show DD = 99 + 1 from rfl, E17]
            have e : cnt (fun i => decide (Gp F g (nI i) = Gp F g2 (nI (itr (tw fun r => cnt (ali (Gp F g) (Gp F g2) r) F) 0 F (0, -1)).1 + 1 * nI i))) F = cnt (ali (Gp F g) (Gp F g2) (itr (tw fun r => cnt (ali (Gp F g) (Gp F g2) r) F) 0 F (0, -1)).1) F := cnt_cg (fun i hi => by unfold ali; rw [Int32.one_mul, nI_add])
            by_cases h0 : z = 0 <;> simp (disch := omega) only [bI_some, bV_some, bR_some, bL_some, ob_some, cd_t, cd_f, cd_d, okO_setI, okA_setI, okL_setI, aLen_setI, hR_setI, hI_setI, Bool.true_and, Bool.and_true, Bool.and_self, Option.isNone_some, Option.isSome_some, Option.isNone_none, Option.isSome_none, okO_chI, okA_chI, okL_chI, aLen_chI, hR_chI, ↓reduceIte, not_true_eq_false, not_false_eq_true, eq_self, c10, if_neg hz1, if_pos hz2, WRt w, WD w (isD_3 q.1), WD w (isD_3 q2.1), Q181 w q, Q181 w q2, Q136 w q, Q136 w q2, Q253 w q q2, Q251 w q q2, h0, ti, e]
            rfl
          · rw [show DD = 99 + 1 from rfl, E111]
            simp only [bI_some, bV_some, bR_some, bL_some, ob_some, cd_t, cd_f, cd_d, okO_setI, okA_setI, okL_setI, aLen_setI, hR_setI, hI_setI, Bool.true_and, Bool.and_true, Bool.and_self, Option.isNone_some, Option.isSome_some, Option.isNone_none, Option.isSome_none, okO_chI, okA_chI, okL_chI, aLen_chI, hR_chI, ↓reduceIte, not_true_eq_false, not_false_eq_true, eq_self, c10, WMd w, Q40 w q q2, Q41 w q, Q41 w q2, S33, if_pos hz]
            exact Q111 w q q2 97 z
        · refine ⟨-2, h, h, ?_, ?_, (WMd w).1, r⟩
          · rw [show DD = 99 + 1 from rfl, E17]
            simp (disch := omega) only [bI_some, bV_some, bR_some, bL_some, ob_some, cd_t, cd_f, cd_d, okO_setI, okA_setI, okL_setI, aLen_setI, hR_setI, hI_setI, Bool.true_and, Bool.and_true, Bool.and_self, Option.isNone_some, Option.isSome_some, Option.isNone_none, Option.isSome_none, okO_chI, okA_chI, okL_chI, aLen_chI, hR_chI, ↓reduceIte, not_true_eq_false, not_false_eq_true, eq_self, c10, nI_eq, if_neg, if_neg hz1, if_pos hz2, WRt w, WD w (isD_3 q.1), WD w (isD_3 q2.1), Q181 w q, Q181 w q2, Q136 w q, Q136 w q2]
          · rw [show DD = 99 + 1 from rfl, E111]
            simp (disch := omega) only [bI_some, bV_some, bR_some, bL_some, ob_some, cd_t, cd_f, cd_d, okO_setI, okA_setI, okL_setI, aLen_setI, hR_setI, hI_setI, Bool.true_and, Bool.and_true, Bool.and_self, Option.isNone_some, Option.isSome_some, Option.isNone_none, Option.isSome_none, okO_chI, okA_chI, okL_chI, aLen_chI, hR_chI, ↓reduceIte, not_true_eq_false, not_false_eq_true, eq_self, c10, nI_eq, if_neg, WMd w, Q40 w q q2, Q41 w q, Q41 w q2, S33, if_pos hz]
      · refine ⟨-1, h, h, ?_, ?_, (WMd w).1, r⟩
        · rw [show DD = 99 + 1 from rfl, E17]
          by_cases h1 : z < 0
          · simp only [bI_some, bV_some, bR_some, bL_some, ob_some, cd_t, cd_f, cd_d, okO_setI, okA_setI, okL_setI, aLen_setI, hR_setI, hI_setI, Bool.true_and, Bool.and_true, Bool.and_self, Option.isNone_some, Option.isSome_some, Option.isNone_none, Option.isSome_none, okO_chI, okA_chI, okL_chI, aLen_chI, hR_chI, ↓reduceIte, not_true_eq_false, not_false_eq_true, eq_self, c10, WRt w, Q181 w q, Q181 w q2, if_pos h1]
          · have h2 : ¬ z ≤ 1 := fun e => hz ⟨Int32.not_lt.mp h1, e⟩
            simp only [bI_some, bV_some, bR_some, bL_some, ob_some, cd_t, cd_f, cd_d, okO_setI, okA_setI, okL_setI, aLen_setI, hR_setI, hI_setI, Bool.true_and, Bool.and_true, Bool.and_self, Option.isNone_some, Option.isSome_some, Option.isNone_none, Option.isSome_none, okO_chI, okA_chI, okL_chI, aLen_chI, hR_chI, ↓reduceIte, not_true_eq_false, not_false_eq_true, eq_self, c10, WRt w, Q181 w q, Q181 w q2, if_neg h1, if_neg h2]
        · rw [show DD = 99 + 1 from rfl, E111]
          simp only [bI_some, bV_some, bR_some, bL_some, ob_some, cd_t, cd_f, cd_d, okO_setI, okA_setI, okL_setI, aLen_setI, hR_setI, hI_setI, Bool.true_and, Bool.and_true, Bool.and_self, Option.isNone_some, Option.isSome_some, Option.isNone_none, Option.isSome_none, okO_chI, okA_chI, okL_chI, aLen_chI, hR_chI, ↓reduceIte, not_true_eq_false, not_false_eq_true, eq_self, c10, WMd w, Q40 w q q2, S33, if_neg hz]
    · refine ⟨-1, h, h, ?_, ?_, (WMd w).1, r⟩
      · rw [show DD = 99 + 1 from rfl, E17]
        simp only [bI_some, bV_some, bR_some, bL_some, ob_some, cd_t, cd_f, cd_d, okO_setI, okA_setI, okL_setI, aLen_setI, hR_setI, hI_setI, Bool.true_and, Bool.and_true, Bool.and_self, Option.isNone_some, Option.isSome_some, Option.isNone_none, Option.isSome_none, okO_chI, okA_chI, okL_chI, aLen_chI, hR_chI, ↓reduceIte, not_true_eq_false, not_false_eq_true, eq_self, c10, WRt w, Q181 w q, N181 w n2]
      · rw [show DD = 99 + 1 from rfl, E111]
        simp only [bI_some, bV_some, bR_some, bL_some, ob_some, cd_t, cd_f, cd_d, okO_setI, okA_setI, okL_setI, aLen_setI, hR_setI, hI_setI, Bool.true_and, Bool.and_true, Bool.and_self, Option.isNone_some, Option.isSome_some, Option.isNone_none, Option.isSome_none, okO_chI, okA_chI, okL_chI, aLen_chI, hR_chI, ↓reduceIte, not_true_eq_false, not_false_eq_true, eq_self, c10, WMd w, N40b w q n2]
  · refine ⟨-1, h, h, ?_, ?_, (WMd w).1, r⟩
    · rw [show DD = 99 + 1 from rfl, E17]
      rcases tld r1 r2 y with ⟨l, F2, g2, rfl, q2⟩ | n2
      · simp only [bI_some, bV_some, bR_some, bL_some, ob_some, cd_t, cd_f, cd_d, okO_setI, okA_setI, okL_setI, aLen_setI, hR_setI, hI_setI, Bool.true_and, Bool.and_true, Bool.and_self, Option.isNone_some, Option.isSome_some, Option.isNone_none, Option.isSome_none, okO_chI, okA_chI, okL_chI, aLen_chI, hR_chI, ↓reduceIte, not_true_eq_false, not_false_eq_true, eq_self, c10, WRt w, N181 w n, Q181 w q2]
      · simp only [bI_some, bV_some, bR_some, bL_some, ob_some, cd_t, cd_f, cd_d, okO_setI, okA_setI, okL_setI, aLen_setI, hR_setI, hI_setI, Bool.true_and, Bool.and_true, Bool.and_self, Option.isNone_some, Option.isSome_some, Option.isNone_none, Option.isSome_none, okO_chI, okA_chI, okL_chI, aLen_chI, hR_chI, ↓reduceIte, not_true_eq_false, not_false_eq_true, eq_self, c10, WRt w, N181 w n, N181 w n2]
    · rw [show DD = 99 + 1 from rfl, E111]
      simp only [bI_some, bV_some, bR_some, bL_some, ob_some, cd_t, cd_f, cd_d, okO_setI, okA_setI, okL_setI, aLen_setI, hR_setI, hI_setI, Bool.true_and, Bool.and_true, Bool.and_self, Option.isNone_some, Option.isSome_some, Option.isNone_none, Option.isSome_none, okO_chI, okA_chI, okL_chI, aLen_chI, hR_chI, ↓reduceIte, not_true_eq_false, not_false_eq_true, eq_self, c10, WMd w, N40a w n]
/-! how long two rows are alike -/
def lke (G G2 : Int32 → Int32) (i j n : Nat) : Nat := (fst (fun t => !decide (G (nI (i + t)) = G2 (nI (j + t)))) 0 n).getD n
theorem oel_g {o : Option Nat} {h : rz_H} {n : Nat} : oel (fun r => some (rz_i (nI r), h)) (some (rz_i (nI n), h)) o = some (rz_i (nI (o.getD n)), h) := by
  cases o <;> rfl
theorem Q254 {rb dr : Nat} {jd : Option Nat} {h : rz_H} (w : Wf rb dr jd h) {k l F F2 : Nat} {g g2 : Nat → Nat} (q : Dq h k F g) (q2 : Dq h l F2 g2) (d i j n : Nat) (hn : n < 1000) : cW (d + 3) 254 [rz_r (some (5 + 3 * k)), rz_i (nI i), rz_r (some (5 + 3 * l)), rz_i (nI j), rz_i (nI n)] h = some (rz_i (nI (lke (Gp F g) (Gp F2 g2) i j n)), h) := by
  rw [E254]
  unfold lke
  rw [← oel_g]
  refine lp_jf (τ := Unit) (fun t _ => rW (d + 2) 254 (2, (0, 0), [some (rz_r (some (5 + 3 * k))), some (rz_i (nI i)), some (rz_r (some (5 + 3 * l))), some (rz_i (nI j)), some (rz_i (nI n)), some (rz_i (nI t))], [], h)) _ _ _ n (fun t _ ht => ⟨fun hp => ?_, fun hp => ⟨(), ?_⟩⟩) (fun _ => ?_) n 0 () (by omega)
  · have hp : ¬ Gp F g (nI (i + t)) = Gp F2 g2 (nI (j + t)) := by simpa using hp
    rw [E254_2]
    simp (disch := omega) only [bI_some, bV_some, bR_some, bL_some, ob_some, cd_t, cd_f, cd_d, okO_setI, okA_setI, okL_setI, aLen_setI, hR_setI, hI_setI, Bool.true_and, Bool.and_true, Bool.and_self, Option.isNone_some, Option.isSome_some, Option.isNone_none, Option.isSome_none, okO_chI, okA_chI, okL_chI, aLen_chI, hR_chI, ↓reduceIte, not_true_eq_false, not_false_eq_true, eq_self, c10, Nat.zero_add, nI_add, litA, litB, litM, nI_mul, nI_leI, nI_ltI, nI_eq, litLe, litLe2, litLt, litLt2, litEq, litEq2, in_nI, lit_in, nI_clamp, lit_cl, if_pos, if_neg, WD w (isD_3 q.1), WD w (isD_3 q2.1), Q144 w q, Q144 w q2, hp]
  · have hp : Gp F g (nI (i + t)) = Gp F2 g2 (nI (j + t)) := by simpa using hp
    rw [E254_2]
    simp (disch := omega) only [bI_some, bV_some, bR_some, bL_some, ob_some, cd_t, cd_f, cd_d, okO_setI, okA_setI, okL_setI, aLen_setI, hR_setI, hI_setI, Bool.true_and, Bool.and_true, Bool.and_self, Option.isNone_some, Option.isSome_some, Option.isNone_none, Option.isSome_none, okO_chI, okA_chI, okL_chI, aLen_chI, hR_chI, ↓reduceIte, not_true_eq_false, not_false_eq_true, eq_self, c10, Nat.zero_add, nI_add, litA, litB, litM, nI_mul, nI_leI, nI_ltI, nI_eq, litLe, litLe2, litLt, litLt2, litEq, litEq2, in_nI, lit_in, nI_clamp, lit_cl, if_pos, if_neg, WD w (isD_3 q.1), WD w (isD_3 q2.1), Q144 w q, Q144 w q2, hp]
  · rw [E254_2]
    simp (disch := omega) only [bI_some, bV_some, bR_some, bL_some, ob_some, cd_t, cd_f, cd_d, okO_setI, okA_setI, okL_setI, aLen_setI, hR_setI, hI_setI, Bool.true_and, Bool.and_true, Bool.and_self, Option.isNone_some, Option.isSome_some, Option.isNone_none, Option.isSome_none, okO_chI, okA_chI, okL_chI, aLen_chI, hR_chI, ↓reduceIte, not_true_eq_false, not_false_eq_true, eq_self, c10, Nat.zero_add, nI_add, litA, litB, litM, nI_mul, nI_leI, nI_ltI, nI_eq, litLe, litLe2, litLt, litLt2, litEq, litEq2, in_nI, lit_in, nI_clamp, lit_cl, if_pos, if_neg]
theorem lke_le (G G2 : Int32 → Int32) (i j n : Nat) : lke G G2 i j n ≤ n := by
  unfold lke
  rcases hf : fst (fun t => !decide (G (nI (i + t)) = G2 (nI (j + t)))) 0 n with _ | m
  · exact Nat.le_refl _
  · have := (fst_some n 0 m hf).2.1
    show m ≤ n
    omega
theorem lke_all {G G2 : Int32 → Int32} {i j n : Nat} : lke G G2 i j n = n ↔ ∀ t, t < n → G (nI (i + t)) = G2 (nI (j + t)) := by
  unfold lke
  rcases hf : fst (fun t => !decide (G (nI (i + t)) = G2 (nI (j + t)))) 0 n with _ | m
  · refine ⟨fun _ t ht => ?_, fun _ => rfl⟩
    have := fst_none n 0 hf t (by omega) (by omega)
    simpa using this
  · obtain ⟨h1, h2, h3, h4⟩ := fst_some n 0 m hf
    refine ⟨fun e => ?_, fun e => ?_⟩
    · have e : m = n := e
      omega
    · have := e m (by omega)
      simp [this] at h3
theorem lke_at {G G2 : Int32 → Int32} {i j n : Nat} (hl : lke G G2 i j n < n) : ¬ G (nI (i + lke G G2 i j n)) = G2 (nI (j + lke G G2 i j n)) := by
  revert hl
  unfold lke
  rcases hf : fst (fun t => !decide (G (nI (i + t)) = G2 (nI (j + t)))) 0 n with _ | m
  · intro hl; exact absurd hl (Nat.lt_irrefl _)
  · intro _
    have := (fst_some n 0 m hf).2.2.1
    show ¬ G (nI (i + m)) = G2 (nI (j + m))
    simpa using this
theorem Q261 {rb dr : Nat} {jd : Option Nat} {h : rz_H} (w : Wf rb dr jd h) {k l F F2 : Nat} {g g2 : Nat → Nat} (q : Dq h k F g) (q2 : Dq h l F2 g2) (d : Nat) : cW (d + 4) 261 [rz_r (some (5 + 3 * k)), rz_r (some (5 + 3 * l))] h = some (rz_i (itr (fun i m => itr (fun j m => mx m (nI (lke (Gp F g) (Gp F2 g2) i j (min F F2)))) 0 F2 m) 0 F 0), h) := by
  have hF := q.2.2.1
  have hF2 := q2.2.2.1
  rw [E261]
  simp (disch := omega) only [bI_some, bV_some, bR_some, bL_some, ob_some, cd_t, cd_f, cd_d, okO_setI, okA_setI, okL_setI, aLen_setI, hR_setI, hI_setI, Bool.true_and, Bool.and_true, Bool.and_self, Option.isNone_some, Option.isSome_some, Option.isNone_none, Option.isSome_none, okO_chI, okA_chI, okL_chI, aLen_chI, hR_chI, ↓reduceIte, not_true_eq_false, not_false_eq_true, eq_self, c10, Nat.zero_add, nI_add, litA, litB, litM, nI_mul, nI_leI, nI_ltI, nI_eq, litLe, litLe2, litLt, litLt2, litEq, litEq2, in_nI, lit_in, nI_clamp, lit_cl, if_pos, if_neg, WD w (isD_3 q.1), WD w (isD_3 q2.1), Q136 w q, Q136 w q2, T278, mn_nI]
  refine lp_j (fun i m j => rW (d + 3) 261 (10, (0, 0), [some (rz_r (some (5 + 3 * k))), some (rz_r (some (5 + 3 * l))), some (rz_i (nI (min F F2))), some (rz_i m), some (rz_i (nI i)), j], [], h)) (fun m => some (rz_i m, h)) (fun i m => itr (fun j m => mx m (nI (lke (Gp F g) (Gp F2 g2) i j (min F F2)))) 0 F2 m) F (fun i m j hi => ⟨some (rz_i (nI F2)), ?_⟩) (fun m j => ?_) F 0 0 none (by omega)
  · rw [E261_10]
    simp (disch := omega) only [bI_some, bV_some, bR_some, bL_some, ob_some, cd_t, cd_f, cd_d, okO_setI, okA_setI, okL_setI, aLen_setI, hR_setI, hI_setI, Bool.true_and, Bool.and_true, Bool.and_self, Option.isNone_some, Option.isSome_some, Option.isNone_none, Option.isSome_none, okO_chI, okA_chI, okL_chI, aLen_chI, hR_chI, ↓reduceIte, not_true_eq_false, not_false_eq_true, eq_self, c10, Nat.zero_add, nI_add, litA, litB, litM, nI_mul, nI_leI, nI_ltI, nI_eq, litLe, litLe2, litLt, litLt2, litEq, litEq2, in_nI, lit_in, nI_clamp, lit_cl, if_pos, if_neg, WD w (isD_3 q.1), Q136 w q]
    refine Eq.trans (lp_i0 (fun j m => rW (d + 3) 261 (16, (0, 0), [some (rz_r (some (5 + 3 * k))), some (rz_r (some (5 + 3 * l))), some (rz_i (nI (min F F2))), some (rz_i m), some (rz_i (nI i)), some (rz_i (nI j))], [], h)) (fun j m => mx m (nI (lke (Gp F g) (Gp F2 g2) i j (min F F2)))) F2 m (fun j m hj => ?_)) ?_
    · rw [E261_16]
      simp (disch := omega) only [bI_some, bV_some, bR_some, bL_some, ob_some, cd_t, cd_f, cd_d, okO_setI, okA_setI, okL_setI, aLen_setI, hR_setI, hI_setI, Bool.true_and, Bool.and_true, Bool.and_self, Option.isNone_some, Option.isSome_some, Option.isNone_none, Option.isSome_none, okO_chI, okA_chI, okL_chI, aLen_chI, hR_chI, ↓reduceIte, not_true_eq_false, not_false_eq_true, eq_self, c10, Nat.zero_add, nI_add, litA, litB, litM, nI_mul, nI_leI, nI_ltI, nI_eq, litLe, litLe2, litLt, litLt2, litEq, litEq2, in_nI, lit_in, nI_clamp, lit_cl, if_pos, if_neg, WD w (isD_3 q2.1), Q136 w q2, Q254 w q q2, T277]
    · rw [E261_16]
      simp (disch := omega) only [bI_some, bV_some, bR_some, bL_some, ob_some, cd_t, cd_f, cd_d, okO_setI, okA_setI, okL_setI, aLen_setI, hR_setI, hI_setI, Bool.true_and, Bool.and_true, Bool.and_self, Option.isNone_some, Option.isSome_some, Option.isNone_none, Option.isSome_none, okO_chI, okA_chI, okL_chI, aLen_chI, hR_chI, ↓reduceIte, not_true_eq_false, not_false_eq_true, eq_self, c10, Nat.zero_add, nI_add, litA, litB, litM, nI_mul, nI_leI, nI_ltI, nI_eq, litLe, litLe2, litLt, litLt2, litEq, litEq2, in_nI, lit_in, nI_clamp, lit_cl, if_pos, if_neg, WD w (isD_3 q2.1), Q136 w q2]
  · rw [E261_10]
    simp (disch := omega) only [bI_some, bV_some, bR_some, bL_some, ob_some, cd_t, cd_f, cd_d, okO_setI, okA_setI, okL_setI, aLen_setI, hR_setI, hI_setI, Bool.true_and, Bool.and_true, Bool.and_self, Option.isNone_some, Option.isSome_some, Option.isNone_none, Option.isSome_none, okO_chI, okA_chI, okL_chI, aLen_chI, hR_chI, ↓reduceIte, not_true_eq_false, not_false_eq_true, eq_self, c10, Nat.zero_add, nI_add, litA, litB, litM, nI_mul, nI_leI, nI_ltI, nI_eq, litLe, litLe2, litLt, litLt2, litEq, litEq2, in_nI, lit_in, nI_clamp, lit_cl, if_pos, if_neg, WD w (isD_3 q.1), Q136 w q]
theorem Q110 {rb dr : Nat} {jd : Option Nat} {h : rz_H} (w : Wf rb dr jd h) {k l F F2 : Nat} {g g2 : Nat → Nat} (q : Dq h k F g) (q2 : Dq h l F2 g2) (d : Nat) : rW (d + 2) 110 (11, (0, 0), [some (rz_r (some 109)), some (rz_i (nI k)), some (rz_i (nI l)), some (rz_i 0), some (rz_i 0), none, none], [], h) = some (rz_i (itr (fun i m => itr (fun j m => mx m (nI (lke (Gp F g) (Gp F2 g2) i j (min F F2)))) 0 F2 m) 0 F 0), h) := by
  have hF := q.2.2.1
  have hF2 := q2.2.2.1
  refine lp_j (fun i m j => rW (d + 2) 110 (11, (0, 0), [some (rz_r (some 109)), some (rz_i (nI k)), some (rz_i (nI l)), some (rz_i m), some (rz_i (nI i)), j.1, j.2], [], h)) (fun m => some (rz_i m, h)) (fun i m => itr (fun j m => mx m (nI (lke (Gp F g) (Gp F2 g2) i j (min F F2)))) 0 F2 m) F (fun i m j hi => ⟨(some (rz_i (nI F2)), none), ?_⟩) (fun m j => ?_) F 0 0 (none, none) (by omega)
  · rw [E110_11]
    simp (disch := omega) only [bI_some, bV_some, bR_some, bL_some, ob_some, cd_t, cd_f, cd_d, okO_setI, okA_setI, okL_setI, aLen_setI, hR_setI, hI_setI, Bool.true_and, Bool.and_true, Bool.and_self, Option.isNone_some, Option.isSome_some, Option.isNone_none, Option.isSome_none, okO_chI, okA_chI, okL_chI, aLen_chI, hR_chI, ↓reduceIte, not_true_eq_false, not_false_eq_true, eq_self, c10, Nat.zero_add, nI_add, litA, litB, litM, nI_mul, nI_leI, nI_ltI, nI_eq, litLe, litLe2, litLt, litLt2, litEq, litEq2, in_nI, lit_in, nI_clamp, lit_cl, if_pos, if_neg, WMd w, Q41 w q]
    refine lp_j (fun j m z => rW (d + 2) 110 (18, (0, 0), [some (rz_r (some 109)), some (rz_i (nI k)), some (rz_i (nI l)), some (rz_i m), some (rz_i (nI i)), some (rz_i (nI j)), z], [], h)) (fun m => rW (d + 2) 110 (11, (0, 0), [some (rz_r (some 109)), some (rz_i (nI k)), some (rz_i (nI l)), some (rz_i m), some (rz_i (nI (i + 1))), some (rz_i (nI F2)), none], [], h)) (fun j m => mx m (nI (lke (Gp F g) (Gp F2 g2) i j (min F F2)))) F2 (fun j m z hj => ⟨some (rz_i (nI (lke (Gp F g) (Gp F2 g2) i j (min F F2)))), ?_⟩) (fun m z => ?_) F2 0 m none (by omega)
    · rw [E110_18]
      simp (disch := omega) only [bI_some, bV_some, bR_some, bL_some, ob_some, cd_t, cd_f, cd_d, okO_setI, okA_setI, okL_setI, aLen_setI, hR_setI, hI_setI, Bool.true_and, Bool.and_true, Bool.and_self, Option.isNone_some, Option.isSome_some, Option.isNone_none, Option.isSome_none, okO_chI, okA_chI, okL_chI, aLen_chI, hR_chI, ↓reduceIte, not_true_eq_false, not_false_eq_true, eq_self, c10, Nat.zero_add, nI_add, litA, litB, litM, nI_mul, nI_leI, nI_ltI, nI_eq, litLe, litLe2, litLt, litLt2, litEq, litEq2, in_nI, lit_in, nI_clamp, lit_cl, if_pos, if_neg, WMd w, Q41 w q2]
      have mm : min F F2 ≤ 16 := by omega
      have key := lp_jf (τ := Unit) (fun t _ => rW (d + 2) 110 (25, (0, 0), [some (rz_r (some 109)), some (rz_i (nI k)), some (rz_i (nI l)), some (rz_i m), some (rz_i (nI i)), some (rz_i (nI j)), some (rz_i (nI t))], [], h)) (fun t => rW (d + 2) 110 (18, (0, 0), [some (rz_r (some 109)), some (rz_i (nI k)), some (rz_i (nI l)), some (rz_i (mx m (nI t))), some (rz_i (nI i)), some (rz_i (nI (j + 1))), some (rz_i (nI t))], [], h)) (rW (d + 2) 110 (18, (0, 0), [some (rz_r (some 109)), some (rz_i (nI k)), some (rz_i (nI l)), some (rz_i (mx m (nI (min F F2)))), some (rz_i (nI i)), some (rz_i (nI (j + 1))), some (rz_i (nI (min F F2)))], [], h)) (fun t => !decide (Gp F g (nI (i + t)) = Gp F2 g2 (nI (j + t)))) (min F F2) (fun t _ ht => ⟨fun hp => ?_, fun hp => ⟨(), ?_⟩⟩) (fun _ => ?_) (min F F2) 0 () (by omega)
      · refine Eq.trans key ?_
        unfold lke
        cases fst (fun t => !decide (Gp F g (nI (i + t)) = Gp F2 g2 (nI (j + t)))) 0 (min F F2) <;> rfl
      · have hp : ¬ Gp F g (nI (i + t)) = Gp F2 g2 (nI (j + t)) := by simpa using hp
        rw [E110_25]
        simp (disch := omega) only [bI_some, bV_some, bR_some, bL_some, ob_some, cd_t, cd_f, cd_d, okO_setI, okA_setI, okL_setI, aLen_setI, hR_setI, hI_setI, Bool.true_and, Bool.and_true, Bool.and_self, Option.isNone_some, Option.isSome_some, Option.isNone_none, Option.isSome_none, okO_chI, okA_chI, okL_chI, aLen_chI, hR_chI, ↓reduceIte, not_true_eq_false, not_false_eq_true, eq_self, c10, Nat.zero_add, nI_add, litA, litB, litM, nI_mul, nI_leI, nI_ltI, nI_eq, litLe, litLe2, litLt, litLt2, litEq, litEq2, in_nI, lit_in, nI_clamp, lit_cl, if_pos, if_neg, WMd w, Q41 w q, Q41 w q2, S34, mn_nI, S35, Q42 w q, Q42 w q2, hp]
      · have hp : Gp F g (nI (i + t)) = Gp F2 g2 (nI (j + t)) := by simpa using hp
        rw [E110_25]
        simp (disch := omega) only [bI_some, bV_some, bR_some, bL_some, ob_some, cd_t, cd_f, cd_d, okO_setI, okA_setI, okL_setI, aLen_setI, hR_setI, hI_setI, Bool.true_and, Bool.and_true, Bool.and_self, Option.isNone_some, Option.isSome_some, Option.isNone_none, Option.isSome_none, okO_chI, okA_chI, okL_chI, aLen_chI, hR_chI, ↓reduceIte, not_true_eq_false, not_false_eq_true, eq_self, c10, Nat.zero_add, nI_add, litA, litB, litM, nI_mul, nI_leI, nI_ltI, nI_eq, litLe, litLe2, litLt, litLt2, litEq, litEq2, in_nI, lit_in, nI_clamp, lit_cl, if_pos, if_neg, WMd w, Q41 w q, Q41 w q2, S34, mn_nI, S35, Q42 w q, Q42 w q2, hp]
      · rw [E110_25]
        simp (disch := omega) only [bI_some, bV_some, bR_some, bL_some, ob_some, cd_t, cd_f, cd_d, okO_setI, okA_setI, okL_setI, aLen_setI, hR_setI, hI_setI, Bool.true_and, Bool.and_true, Bool.and_self, Option.isNone_some, Option.isSome_some, Option.isNone_none, Option.isSome_none, okO_chI, okA_chI, okL_chI, aLen_chI, hR_chI, ↓reduceIte, not_true_eq_false, not_false_eq_true, eq_self, c10, Nat.zero_add, nI_add, litA, litB, litM, nI_mul, nI_leI, nI_ltI, nI_eq, litLe, litLe2, litLt, litLt2, litEq, litEq2, in_nI, lit_in, nI_clamp, lit_cl, if_pos, if_neg, WMd w, Q41 w q, Q41 w q2, S34, mn_nI, S35]
    · rw [E110_18]
      simp (disch := omega) only [bI_some, bV_some, bR_some, bL_some, ob_some, cd_t, cd_f, cd_d, okO_setI, okA_setI, okL_setI, aLen_setI, hR_setI, hI_setI, Bool.true_and, Bool.and_true, Bool.and_self, Option.isNone_some, Option.isSome_some, Option.isNone_none, Option.isSome_none, okO_chI, okA_chI, okL_chI, aLen_chI, hR_chI, ↓reduceIte, not_true_eq_false, not_false_eq_true, eq_self, c10, Nat.zero_add, nI_add, litA, litB, litM, nI_mul, nI_leI, nI_ltI, nI_eq, litLe, litLe2, litLt, litLt2, litEq, litEq2, in_nI, lit_in, nI_clamp, lit_cl, if_pos, if_neg, WMd w, Q41 w q2]
  · rw [E110_11]
    simp (disch := omega) only [bI_some, bV_some, bR_some, bL_some, ob_some, cd_t, cd_f, cd_d, okO_setI, okA_setI, okL_setI, aLen_setI, hR_setI, hI_setI, Bool.true_and, Bool.and_true, Bool.and_self, Option.isNone_some, Option.isSome_some, Option.isNone_none, Option.isSome_none, okO_chI, okA_chI, okL_chI, aLen_chI, hR_chI, ↓reduceIte, not_true_eq_false, not_false_eq_true, eq_self, c10, Nat.zero_add, nI_add, litA, litB, litM, nI_mul, nI_leI, nI_ltI, nI_eq, litLe, litLe2, litLt, litLt2, litEq, litEq2, in_nI, lit_in, nI_clamp, lit_cl, if_pos, if_neg, WMd w, Q41 w q]
theorem P16 (x y : Int32) : Pr Rel 16 110 [rz_i x, rz_i y] := by
  intro h r
  obtain ⟨rb, dr, jd, w, r1, r2, r3, r4, r5⟩ := id r
  rcases tld r1 r2 x with ⟨k, F, g, rfl, q⟩ | n
  · rcases tld r1 r2 y with ⟨l, F2, g2, rfl, q2⟩ | n2
    · refine ⟨itr (fun i m => itr (fun j m => mx m (nI (lke (Gp F g) (Gp F2 g2) i j (min F F2)))) 0 F2 m) 0 F 0, h, h, ?_, ?_, (WMd w).1, r⟩
      · rw [show DD = 99 + 1 from rfl, E16]
        simp only [bI_some, bV_some, bR_some, bL_some, ob_some, cd_t, cd_f, cd_d, okO_setI, okA_setI, okL_setI, aLen_setI, hR_setI, hI_setI, Bool.true_and, Bool.and_true, Bool.and_self, Option.isNone_some, Option.isSome_some, Option.isNone_none, Option.isSome_none, okO_chI, okA_chI, okL_chI, aLen_chI, hR_chI, ↓reduceIte, not_true_eq_false, not_false_eq_true, eq_self, c10, WRt w, Q181 w q, Q181 w q2, Q261 w q q2]
      · rw [show DD = 99 + 1 from rfl, E110]
        simp only [bI_some, bV_some, bR_some, bL_some, ob_some, cd_t, cd_f, cd_d, okO_setI, okA_setI, okL_setI, aLen_setI, hR_setI, hI_setI, Bool.true_and, Bool.and_true, Bool.and_self, Option.isNone_some, Option.isSome_some, Option.isNone_none, Option.isSome_none, okO_chI, okA_chI, okL_chI, aLen_chI, hR_chI, ↓reduceIte, not_true_eq_false, not_false_eq_true, eq_self, c10, WMd w, Q40 w q q2]
        exact Q110 w q q2 97
    · refine ⟨-1, h, h, ?_, ?_, (WMd w).1, r⟩
      · rw [show DD = 99 + 1 from rfl, E16]
        simp only [bI_some, bV_some, bR_some, bL_some, ob_some, cd_t, cd_f, cd_d, okO_setI, okA_setI, okL_setI, aLen_setI, hR_setI, hI_setI, Bool.true_and, Bool.and_true, Bool.and_self, Option.isNone_some, Option.isSome_some, Option.isNone_none, Option.isSome_none, okO_chI, okA_chI, okL_chI, aLen_chI, hR_chI, ↓reduceIte, not_true_eq_false, not_false_eq_true, eq_self, c10, WRt w, Q181 w q, N181 w n2]
      · rw [show DD = 99 + 1 from rfl, E110]
        simp only [bI_some, bV_some, bR_some, bL_some, ob_some, cd_t, cd_f, cd_d, okO_setI, okA_setI, okL_setI, aLen_setI, hR_setI, hI_setI, Bool.true_and, Bool.and_true, Bool.and_self, Option.isNone_some, Option.isSome_some, Option.isNone_none, Option.isSome_none, okO_chI, okA_chI, okL_chI, aLen_chI, hR_chI, ↓reduceIte, not_true_eq_false, not_false_eq_true, eq_self, c10, WMd w, N40b w q n2]
  · refine ⟨-1, h, h, ?_, ?_, (WMd w).1, r⟩
    · rw [show DD = 99 + 1 from rfl, E16]
      rcases tld r1 r2 y with ⟨l, F2, g2, rfl, q2⟩ | n2
      · simp only [bI_some, bV_some, bR_some, bL_some, ob_some, cd_t, cd_f, cd_d, okO_setI, okA_setI, okL_setI, aLen_setI, hR_setI, hI_setI, Bool.true_and, Bool.and_true, Bool.and_self, Option.isNone_some, Option.isSome_some, Option.isNone_none, Option.isSome_none, okO_chI, okA_chI, okL_chI, aLen_chI, hR_chI, ↓reduceIte, not_true_eq_false, not_false_eq_true, eq_self, c10, WRt w, N181 w n, Q181 w q2]
      · simp only [bI_some, bV_some, bR_some, bL_some, ob_some, cd_t, cd_f, cd_d, okO_setI, okA_setI, okL_setI, aLen_setI, hR_setI, hI_setI, Bool.true_and, Bool.and_true, Bool.and_self, Option.isNone_some, Option.isSome_some, Option.isNone_none, Option.isSome_none, okO_chI, okA_chI, okL_chI, aLen_chI, hR_chI, ↓reduceIte, not_true_eq_false, not_false_eq_true, eq_self, c10, WRt w, N181 w n, N181 w n2]
    · rw [show DD = 99 + 1 from rfl, E110]
      simp only [bI_some, bV_some, bR_some, bL_some, ob_some, cd_t, cd_f, cd_d, okO_setI, okA_setI, okL_setI, aLen_setI, hR_setI, hI_setI, Bool.true_and, Bool.and_true, Bool.and_self, Option.isNone_some, Option.isSome_some, Option.isNone_none, Option.isSome_none, okO_chI, okA_chI, okL_chI, aLen_chI, hR_chI, ↓reduceIte, not_true_eq_false, not_false_eq_true, eq_self, c10, WMd w, N40a w n]
