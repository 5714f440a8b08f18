/-! the fewest edits -/
theorem lp_h {τ ρ : Type} (P : Nat → rz_H → τ → ρ) (I : Nat → rz_H → Prop) (n : Nat) (hs : ∀ i k j, i < n → I i k → ∃ k2 j2, P i k j = P (i + 1) k2 j2 ∧ I (i + 1) k2) : ∀ (c i : Nat) (k : rz_H) (j : τ), i + c = n → I i k → ∃ k2 j2, P i k j = P n k2 j2 ∧ I n k2
  | 0, i, k, j, e, h => by
    have : i = n := by omega
    subst this
    exact ⟨k, j, rfl, h⟩
  | c + 1, i, k, j, e, h => by
    obtain ⟨k2, j2, e2, h2⟩ := hs i k j (by omega) h
    obtain ⟨k3, j3, e3, h3⟩ := lp_h P I n hs c (i + 1) k2 j2 (by omega) h2
    exact ⟨k3, j3, e2.trans e3, h3⟩
def nxr (p : Nat → Nat) (u : Nat → Nat) (i : Nat) : Nat → Nat
  | 0 => i + 1
  | j + 1 => min (u j + p j) (min (u (j + 1)) (nxr p u i j) + 1)
def edr (p : Nat → Nat → Nat) : Nat → Nat → Nat
  | 0 => fun j => j
  | i + 1 => nxr (p i) (edr p i) i
theorem edr_le (p : Nat → Nat → Nat) : ∀ i j, edr p i j ≤ i + j
  | 0, j => by show j ≤ 0 + j; omega
  | i + 1, 0 => by show i + 1 ≤ i + 1 + 0; omega
  | i + 1, j + 1 => by
    show min (edr p i j + p i j) (min (edr p i (j + 1)) (edr p (i + 1) j) + 1) ≤ _
    have := edr_le p i (j + 1)
    omega
theorem edr_s (p : Nat → Nat → Nat) (i j : Nat) : edr p (i + 1) (j + 1) = min (edr p i j + p i j) (min (edr p i (j + 1)) (edr p (i + 1) j) + 1) := rfl
def ptt (G G2 : Int32 → Int32) (f i j : Nat) : Nat := if G (nI (f + i)) = G2 (nI j) then 0 else 1
def edt (G G2 : Int32 → Int32) (F F2 f : Nat) : Nat := edr (ptt G G2 f) F F2
theorem Q241 {rb dr : Nat} {jd : Option Nat} {h : rz_H} (w : Wf rb dr jd h) {k l F F2 : Nat} {g g2 : Nat → Nat} (q : Dq h k F g) (q2 : Dq h l F2 g2) (d f : Nat) : ∃ k', cW (d + 3) 241 [rz_r (some 103), rz_r (some (5 + 3 * k)), rz_i (nI f), rz_r (some (5 + 3 * l))] h = some (rz_i (nI (edt (Gp F g) (Gp F2 g2) F F2 f)), k') ∧ Wf rb dr jd k' ∧ Kp h k' := by
  have hF := q.2.2.1
  have hF2 := q2.2.2.1
  have m16 : mn (nI F2) (16 : Int32) = nI F2 := by
    rw [show (16 : Int32) = nI 16 from rfl, mn_nI (by omega) (by omega), Nat.min_eq_left hF2]
  generalize hE : edr (ptt (Gp F g) (Gp F2 g2) f) = E
  have hle : ∀ i j, E i j ≤ i + j := fun i j => by rw [← hE]; exact edr_le _ i j
  have hE0 : ∀ j, E 0 j = j := fun j => by rw [← hE]; rfl
  have hEi : ∀ i, E (i + 1) 0 = i + 1 := fun i => by rw [← hE]; rfl
  have hEs : ∀ i j, E (i + 1) (j + 1) = min (E i j + ptt (Gp F g) (Gp F2 g2) f i j) (min (E i (j + 1)) (E (i + 1) j) + 1) := fun i j => by rw [← hE]; rfl
  -- the first row
  obtain ⟨k1, j1, e1, w1, p1, u1⟩ := lp_h (τ := Unit) (fun j k' _ => rW (d + 2) 241 (7, (0, 0), [some (rz_r (some 103)), some (rz_r (some (5 + 3 * k))), some (rz_i (nI f)), some (rz_r (some (5 + 3 * l))), some (rz_i (nI F2)), some (rz_i (nI j)), none, none, none], [], k')) (fun j k' => Wf rb dr jd k' ∧ Kp h k' ∧ ∀ t, t < j → hI k' 104 t = nI (E 0 t)) (F2 + 1) (fun j k' _ hj ⟨w', p', u'⟩ => ⟨setI k' 104 j (nI j), (), by
      rw [E241_7]
      simp (disch := omega) only [bI_some, bV_some, bR_some, bL_some, ob_some, cd_t, cd_f, cd_d, okO_setI, okA_setI, okL_setI, aLen_setI, hR_setI, hI_setI, Bool.true_and, Bool.and_true, Bool.and_self, Option.isNone_some, Option.isSome_some, Option.isNone_none, Option.isSome_none, okO_chI, okA_chI, okL_chI, aLen_chI, hR_chI, ↓reduceIte, not_true_eq_false, not_false_eq_true, eq_self, c10, Nat.zero_add, nI_add, litA, litB, litM, nI_mul, nI_leI, nI_ltI, nI_eq, litLe, litLe2, litLt, litLt2, litEq, litEq2, in_nI, lit_in, nI_clamp, lit_cl, if_pos, if_neg, WRi w'], w', p'.set _ _ (by omega), fun t ht => by
      rw [hI_setI]
      by_cases e : t = j
      · subst e; rw [if_pos ⟨rfl, rfl⟩, hE0]
      · rw [if_neg (fun q => e q.2)]; exact u' t (by omega)⟩) (F2 + 1) 0 h () (by omega) ⟨w, Kp.refl h, fun t ht => absurd ht (by omega)⟩
  -- row by row
  have rows : ∀ i k' (_ : Option rz_V × Option rz_V × Option rz_V), i < F → (Wf rb dr jd k' ∧ Kp h k' ∧ ∀ t, t ≤ F2 → hI k' 104 t = nI (E i t)) → ∀ j, ∃ k2 j2, rW (d + 2) 241 (24, (0, 0), [some (rz_r (some 103)), some (rz_r (some (5 + 3 * k))), some (rz_i (nI f)), some (rz_r (some (5 + 3 * l))), some (rz_i (nI F2)), some (rz_i (nI (i + 1))), j, none, none], [], k') = rW (d + 2) 241 (24, (0, 0), [some (rz_r (some 103)), some (rz_r (some (5 + 3 * k))), some (rz_i (nI f)), some (rz_r (some (5 + 3 * l))), some (rz_i (nI F2)), some (rz_i (nI (i + 1 + 1))), j2, none, none], [], k2) ∧ (Wf rb dr jd k2 ∧ Kp h k2 ∧ ∀ t, t ≤ F2 → hI k2 104 t = nI (E (i + 1) t)) := by
    intro i k' _ hi ⟨w', p', u'⟩ j
    have q' := q.kc p'.1
    obtain ⟨k3, j3, e3, w3, p3, u3, l3⟩ := lp_h (τ := Option rz_V × Option rz_V) (fun m k' z => rW (d + 2) 241 (35, (0, 0), [some (rz_r (some 103)), some (rz_r (some (5 + 3 * k))), some (rz_i (nI f)), some (rz_r (some (5 + 3 * l))), some (rz_i (nI F2)), some (rz_i (nI (i + 1))), some (rz_i (nI (m + 1))), z.1, z.2], [], k')) (fun m k' => Wf rb dr jd k' ∧ Kp h k' ∧ (∀ t, t ≤ F2 → hI k' 104 t = nI (E i t)) ∧ ∀ t, t ≤ m → hI k' 105 t = nI (E (i + 1) t)) F2 (fun m k' z hm ⟨w', p', u', l'⟩ => by
        have q' := q.kc p'.1
        have q2' := q2.kc p'.1
        have x1 : nI (f + (i + 1)) - 1 = nI (f + i) := nI_pred (f + i)
        have x2 : nI (m + 1) - 1 = nI m := nI_pred m
        have y1 := u' m (by omega)
        have y2 := u' (m + 1) (by omega)
        have y3 := l' m (by omega)
        have z1 := hle i m
        have z2 := hle i (m + 1)
        have z3 := hle (i + 1) m
        have es := hEs i m
        unfold ptt at es
        by_cases hq : Gp F g (nI (f + i)) = Gp F2 g2 (nI m)
        · rw [if_pos hq] at es
          refine ⟨setI k' 105 (m + 1) (nI (E (i + 1) (m + 1))), (some (rz_i 0), some (rz_i (nI (min (E i (m + 1)) (E (i + 1) m) + 1)))), ?_, w', p'.set _ _ (by omega), fun t ht => ?_, fun t ht => ?_⟩
          · rw [E241_35]
            simp (disch := omega) only [bI_some, bV_some, bR_some, bL_some, ob_some, cd_t, cd_f, cd_d, okO_setI, okA_setI, okL_setI, aLen_setI, hR_setI, hI_setI, Bool.true_and, Bool.and_true, Bool.and_self, Option.isNone_some, Option.isSome_some, Option.isNone_none, Option.isSome_none, okO_chI, okA_chI, okL_chI, aLen_chI, hR_chI, ↓reduceIte, not_true_eq_false, not_false_eq_true, eq_self, c10, Nat.zero_add, nI_add, litA, litB, litM, nI_mul, nI_leI, nI_ltI, nI_eq, litLe, litLe2, litLt, litLt2, litEq, litEq2, in_nI, lit_in, nI_clamp, lit_cl, if_pos, if_neg, WRi w', WD w' (isD_3 q.1), WD w' (isD_3 q2.1), Q144 w' q', Q144 w' q2', x1, x2, hq, y1, y2, y3, T278, mn_nI, es, Int32.add_zero, Nat.add_zero]
          · rw [hI_setI, if_neg (by omega)]; exact u' t ht
          · rw [hI_setI]
            by_cases e : t = m + 1
            · subst e; rw [if_pos ⟨rfl, rfl⟩]
            · rw [if_neg (fun q => e q.2)]; exact l' t (by omega)
        · rw [if_neg hq] at es
          refine ⟨setI k' 105 (m + 1) (nI (E (i + 1) (m + 1))), (some (rz_i 1), some (rz_i (nI (min (E i (m + 1)) (E (i + 1) m) + 1)))), ?_, w', p'.set _ _ (by omega), fun t ht => ?_, fun t ht => ?_⟩
          · rw [E241_35]
            simp (disch := omega) only [bI_some, bV_some, bR_some, bL_some, ob_some, cd_t, cd_f, cd_d, okO_setI, okA_setI, okL_setI, aLen_setI, hR_setI, hI_setI, Bool.true_and, Bool.and_true, Bool.and_self, Option.isNone_some, Option.isSome_some, Option.isNone_none, Option.isSome_none, okO_chI, okA_chI, okL_chI, aLen_chI, hR_chI, ↓reduceIte, not_true_eq_false, not_false_eq_true, eq_self, c10, Nat.zero_add, nI_add, litA, litB, litM, nI_mul, nI_leI, nI_ltI, nI_eq, litLe, litLe2, litLt, litLt2, litEq, litEq2, in_nI, lit_in, nI_clamp, lit_cl, if_pos, if_neg, WRi w', WD w' (isD_3 q.1), WD w' (isD_3 q2.1), Q144 w' q', Q144 w' q2', x1, x2, hq, y1, y2, y3, T278, mn_nI, es]
          · rw [hI_setI, if_neg (by omega)]; exact u' t ht
          · rw [hI_setI]
            by_cases e : t = m + 1
            · subst e; rw [if_pos ⟨rfl, rfl⟩]
            · rw [if_neg (fun q => e q.2)]; exact l' t (by omega)) F2 0 (setI k' 105 0 (nI (i + 1))) (none, none) (by omega) ⟨w', p'.set _ _ (by omega), fun t ht => by rw [hI_setI, if_neg (by omega)]; exact u' t ht, fun t ht => by
        have : t = 0 := by omega
        subst this
        rw [hI_setI, if_pos ⟨rfl, rfl⟩, hEi]⟩
    obtain ⟨k4, j4, e4, w4, p4, l4, u4⟩ := lp_h (τ := Unit) (fun m k' _ => rW (d + 2) 241 (97, (0, 0), [some (rz_r (some 103)), some (rz_r (some (5 + 3 * k))), some (rz_i (nI f)), some (rz_r (some (5 + 3 * l))), some (rz_i (nI F2)), some (rz_i (nI (i + 1))), some (rz_i (nI m)), none, none], [], k')) (fun m k' => Wf rb dr jd k' ∧ Kp h k' ∧ (∀ t, t ≤ F2 → hI k' 105 t = nI (E (i + 1) t)) ∧ ∀ t, t < m → hI k' 104 t = nI (E (i + 1) t)) (F2 + 1) (fun m k' _ hm ⟨w', p', l', u'⟩ => ⟨setI k' 104 m (nI (E (i + 1) m)), (), by
        have y := l' m (by omega)
        rw [E241_97]
        simp (disch := omega) only [bI_some, bV_some, bR_some, bL_some, ob_some, cd_t, cd_f, cd_d, okO_setI, okA_setI, okL_setI, aLen_setI, hR_setI, hI_setI, Bool.true_and, Bool.and_true, Bool.and_self, Option.isNone_some, Option.isSome_some, Option.isNone_none, Option.isSome_none, okO_chI, okA_chI, okL_chI, aLen_chI, hR_chI, ↓reduceIte, not_true_eq_false, not_false_eq_true, eq_self, c10, Nat.zero_add, nI_add, litA, litB, litM, nI_mul, nI_leI, nI_ltI, nI_eq, litLe, litLe2, litLt, litLt2, litEq, litEq2, in_nI, lit_in, nI_clamp, lit_cl, if_pos, if_neg, WRi w', y], w', p'.set _ _ (by omega), fun t ht => by rw [hI_setI, if_neg (by omega)]; exact l' t ht, fun t ht => by
        rw [hI_setI]
        by_cases e : t = m
        · subst e; rw [if_pos ⟨rfl, rfl⟩]
        · rw [if_neg (fun q => e q.2)]; exact u' t (by omega)⟩) (F2 + 1) 0 k3 () (by omega) ⟨w3, p3, l3, fun t ht => absurd ht (by omega)⟩
    refine ⟨k4, some (rz_i (nI (F2 + 1))), ?_, w4, p4, fun t ht => u4 t (by omega)⟩
    rw [E241_24]
    simp (disch := omega) only [bI_some, bV_some, bR_some, bL_some, ob_some, cd_t, cd_f, cd_d, okO_setI, okA_setI, okL_setI, aLen_setI, hR_setI, hI_setI, Bool.true_and, Bool.and_true, Bool.and_self, Option.isNone_some, Option.isSome_some, Option.isNone_none, Option.isSome_none, okO_chI, okA_chI, okL_chI, aLen_chI, hR_chI, ↓reduceIte, not_true_eq_false, not_false_eq_true, eq_self, c10, Nat.zero_add, nI_add, litA, litB, litM, nI_mul, nI_leI, nI_ltI, nI_eq, litLe, litLe2, litLt, litLt2, litEq, litEq2, in_nI, lit_in, nI_clamp, lit_cl, if_pos, if_neg, WRi w', WD w' (isD_3 q.1), Q136 w' q']
    refine Eq.trans e3 ?_
    rw [E241_35]
    simp (disch := omega) only [bI_some, bV_some, bR_some, bL_some, ob_some, cd_t, cd_f, cd_d, okO_setI, okA_setI, okL_setI, aLen_setI, hR_setI, hI_setI, Bool.true_and, Bool.and_true, Bool.and_self, Option.isNone_some, Option.isSome_some, Option.isNone_none, Option.isSome_none, okO_chI, okA_chI, okL_chI, aLen_chI, hR_chI, ↓reduceIte, not_true_eq_false, not_false_eq_true, eq_self, c10, Nat.zero_add, nI_add, litA, litB, litM, nI_mul, nI_leI, nI_ltI, nI_eq, litLe, litLe2, litLt, litLt2, litEq, litEq2, in_nI, lit_in, nI_clamp, lit_cl, if_pos, if_neg]
    refine Eq.trans e4 ?_
    rw [E241_97]
    simp (disch := omega) only [bI_some, bV_some, bR_some, bL_some, ob_some, cd_t, cd_f, cd_d, okO_setI, okA_setI, okL_setI, aLen_setI, hR_setI, hI_setI, Bool.true_and, Bool.and_true, Bool.and_self, Option.isNone_some, Option.isSome_some, Option.isNone_none, Option.isSome_none, okO_chI, okA_chI, okL_chI, aLen_chI, hR_chI, ↓reduceIte, not_true_eq_false, not_false_eq_true, eq_self, c10, Nat.zero_add, nI_add, litA, litB, litM, nI_mul, nI_leI, nI_ltI, nI_eq, litLe, litLe2, litLt, litLt2, litEq, litEq2, in_nI, lit_in, nI_clamp, lit_cl, if_pos, if_neg]
  obtain ⟨k5, j5, e5, w5, p5, u5⟩ := lp_h (fun i k' z => rW (d + 2) 241 (24, (0, 0), [some (rz_r (some 103)), some (rz_r (some (5 + 3 * k))), some (rz_i (nI f)), some (rz_r (some (5 + 3 * l))), some (rz_i (nI F2)), some (rz_i (nI (i + 1))), z, none, none], [], k')) (fun i k' => Wf rb dr jd k' ∧ Kp h k' ∧ ∀ t, t ≤ F2 → hI k' 104 t = nI (E i t)) F (fun i k' z hi hI => rows i k' (none, none, none) hi hI z) F 0 k1 none (by omega) ⟨w1, p1, fun t ht => u1 t (by omega)⟩
  refine ⟨k5, ?_, w5, p5⟩
  rw [E241]
  simp (disch := omega) only [bI_some, bV_some, bR_some, bL_some, ob_some, cd_t, cd_f, cd_d, okO_setI, okA_setI, okL_setI, aLen_setI, hR_setI, hI_setI, Bool.true_and, Bool.and_true, Bool.and_self, Option.isNone_some, Option.isSome_some, Option.isNone_none, Option.isSome_none, okO_chI, okA_chI, okL_chI, aLen_chI, hR_chI, ↓reduceIte, not_true_eq_false, not_false_eq_true, eq_self, c10, WD w (isD_3 q2.1), Q136 w q2, T278, m16]
  refine Eq.trans e1 ?_
  rw [E241_7]
  simp (disch := omega) only [bI_some, bV_some, bR_some, bL_some, ob_some, cd_t, cd_f, cd_d, okO_setI, okA_setI, okL_setI, aLen_setI, hR_setI, hI_setI, Bool.true_and, Bool.and_true, Bool.and_self, Option.isNone_some, Option.isSome_some, Option.isNone_none, Option.isSome_none, okO_chI, okA_chI, okL_chI, aLen_chI, hR_chI, ↓reduceIte, not_true_eq_false, not_false_eq_true, eq_self, c10, Nat.zero_add, nI_add, litA, litB, litM, nI_mul, nI_leI, nI_ltI, nI_eq, litLe, litLe2, litLt, litLt2, litEq, litEq2, in_nI, lit_in, nI_clamp, lit_cl, if_pos, if_neg]
  refine Eq.trans e5 ?_
  have y := u5 F2 (by omega)
  rw [E241_24]
  simp (disch := omega) only [bI_some, bV_some, bR_some, bL_some, ob_some, cd_t, cd_f, cd_d, okO_setI, okA_setI, okL_setI, aLen_setI, hR_setI, hI_setI, Bool.true_and, Bool.and_true, Bool.and_self, Option.isNone_some, Option.isSome_some, Option.isNone_none, Option.isSome_none, okO_chI, okA_chI, okL_chI, aLen_chI, hR_chI, ↓reduceIte, not_true_eq_false, not_false_eq_true, eq_self, c10, Nat.zero_add, nI_add, litA, litB, litM, nI_mul, nI_leI, nI_ltI, nI_eq, litLe, litLe2, litLt, litLt2, litEq, litEq2, in_nI, lit_in, nI_clamp, lit_cl, if_pos, if_neg, WRi w5, WD w5 (isD_3 q.1), Q136 w5 (q.kc p5.1), y]
  rw [← hE]
  rfl
theorem Q108 {rb dr : Nat} {jd : Option Nat} {h : rz_H} (w : Wf rb dr jd h) {k l F F2 : Nat} {g g2 : Nat → Nat} (q : Dq h k F g) (q2 : Dq h l F2 g2) (d f : Nat) : ∃ k', cW (d + 3) 108 [rz_r (some 109), rz_i (nI k), rz_i (nI l), rz_i (nI f)] h = some (rz_i (nI (edt (Gp F g) (Gp F2 g2) F F2 f)), k') ∧ Wf rb dr jd k' ∧ Kp h k' := by
  have hF := q.2.2.1
  have hF2 := q2.2.2.1
  generalize hE : edr (ptt (Gp F g) (Gp F2 g2) f) = E
  have hle : ∀ i j, E i j ≤ i + j := fun i j => by rw [← hE]; exact edr_le _ i j
  have hE0 : ∀ j, E 0 j = j := fun j => by rw [← hE]; rfl
  have hEi : ∀ i, E (i + 1) 0 = i + 1 := fun i => by rw [← hE]; rfl
  have hEs : ∀ i j, E (i + 1) (j + 1) = min (E i j + ptt (Gp F g) (Gp F2 g2) f i j) (min (E i (j + 1)) (E (i + 1) j) + 1) := fun i j => by rw [← hE]; rfl
  obtain ⟨k1, j1, e1, w1, p1, u1⟩ := lp_h (τ := Unit) (fun j k' _ => rW (d + 2) 108 (6, (0, 0), [some (rz_r (some 109)), some (rz_i (nI k)), some (rz_i (nI l)), some (rz_i (nI f)), some (rz_i (nI F2)), some (rz_i (nI j)), none, none, none, none], [], k')) (fun j k' => Wf rb dr jd k' ∧ Kp h k' ∧ ∀ t, t < j → hI k' 132 t = nI (E 0 t)) (F2 + 1) (fun j k' _ hj ⟨w', p', u'⟩ => ⟨setI k' 132 j (nI j), (), by
      rw [E108_6]
      simp (disch := omega) only [bI_some, bV_some, bR_some, bL_some, ob_some, cd_t, cd_f, cd_d, okO_setI, okA_setI, okL_setI, aLen_setI, hR_setI, hI_setI, Bool.true_and, Bool.and_true, Bool.and_self, Option.isNone_some, Option.isSome_some, Option.isNone_none, Option.isSome_none, okO_chI, okA_chI, okL_chI, aLen_chI, hR_chI, ↓reduceIte, not_true_eq_false, not_false_eq_true, eq_self, c10, Nat.zero_add, nI_add, litA, litB, litM, nI_mul, nI_leI, nI_ltI, nI_eq, litLe, litLe2, litLt, litLt2, litEq, litEq2, in_nI, lit_in, nI_clamp, lit_cl, if_pos, if_neg, WMd w'], w', p'.set _ _ (by omega), fun t ht => by
      rw [hI_setI]
      by_cases e : t = j
      · subst e; rw [if_pos ⟨rfl, rfl⟩, hE0]
      · rw [if_neg (fun q => e q.2)]; exact u' t (by omega)⟩) (F2 + 1) 0 h () (by omega) ⟨w, Kp.refl h, fun t ht => absurd ht (by omega)⟩
  have rows : ∀ i k' (z : Option rz_V × Option rz_V × Option rz_V × Option rz_V), i < F → (Wf rb dr jd k' ∧ Kp h k' ∧ ∀ t, t ≤ F2 → hI k' 132 t = nI (E i t)) → ∃ k2, ∃ z2 : Option rz_V × Option rz_V × Option rz_V × Option rz_V, rW (d + 2) 108 (18, (0, 0), [some (rz_r (some 109)), some (rz_i (nI k)), some (rz_i (nI l)), some (rz_i (nI f)), some (rz_i (nI F2)), some (rz_i (nI i)), z.1, z.2.1, z.2.2.1, z.2.2.2], [], k') = rW (d + 2) 108 (18, (0, 0), [some (rz_r (some 109)), some (rz_i (nI k)), some (rz_i (nI l)), some (rz_i (nI f)), some (rz_i (nI F2)), some (rz_i (nI (i + 1))), z2.1, z2.2.1, z2.2.2.1, z2.2.2.2], [], k2) ∧ (Wf rb dr jd k2 ∧ Kp h k2 ∧ ∀ t, t ≤ F2 → hI k2 132 t = nI (E (i + 1) t)) := by
    intro i k' z hi ⟨w', p', u'⟩
    have q' := q.kc p'.1
    obtain ⟨k3, j3, e3, w3, p3, u3, l3⟩ := lp_h (τ := Option rz_V × Option rz_V) (fun m k' z => rW (d + 2) 108 (37, (0, 0), [some (rz_r (some 109)), some (rz_i (nI k)), some (rz_i (nI l)), some (rz_i (nI f)), some (rz_i (nI F2)), some (rz_i (nI i)), some (rz_i (nI (E i m))), some (rz_i (nI m)), z.1, z.2], [], k')) (fun m k' => Wf rb dr jd k' ∧ Kp h k' ∧ (∀ t, m < t → t ≤ F2 → hI k' 132 t = nI (E i t)) ∧ ∀ t, t ≤ m → hI k' 132 t = nI (E (i + 1) t)) F2 (fun m k' z hm ⟨w', p', u', l'⟩ => by
        have q' := q.kc p'.1
        have q2' := q2.kc p'.1
        have y2 := u' (m + 1) (by omega) (by omega)
        have y3 := l' m (by omega)
        have z1 := hle i m
        have z2 := hle i (m + 1)
        have z3 := hle (i + 1) m
        have es := hEs i m
        unfold ptt at es
        rw [Nat.min_comm (E i (m + 1))] at es
        refine ⟨setI k' 132 (m + 1) (nI (E (i + 1) (m + 1))), (some (rz_i (nI (E i (m + 1)))), some (rz_i (nI (E i m + if Gp F g (nI (f + i)) = Gp F2 g2 (nI m) then 0 else 1)))), ?_, w', p'.set _ _ (by omega), fun t h1 h2 => ?_, fun t ht => ?_⟩
        · by_cases hq : Gp F g (nI (f + i)) = Gp F2 g2 (nI m)
          · rw [if_pos hq] at es
            rw [E108_37]
            simp (disch := omega) only [bI_some, bV_some, bR_some, bL_some, ob_some, cd_t, cd_f, cd_d, okO_setI, okA_setI, okL_setI, aLen_setI, hR_setI, hI_setI, Bool.true_and, Bool.and_true, Bool.and_self, Option.isNone_some, Option.isSome_some, Option.isNone_none, Option.isSome_none, okO_chI, okA_chI, okL_chI, aLen_chI, hR_chI, ↓reduceIte, not_true_eq_false, not_false_eq_true, eq_self, c10, Nat.zero_add, nI_add, litA, litB, litM, nI_mul, nI_leI, nI_ltI, nI_eq, litLe, litLe2, litLt, litLt2, litEq, litEq2, in_nI, lit_in, nI_clamp, lit_cl, if_pos, if_neg, WMd w', Q42 w' q', Q42 w' q2', hq, y2, y3, S34, mn_nI, es, Int32.add_zero, Nat.add_zero]
          · rw [if_neg hq] at es
            rw [E108_37]
            simp (disch := omega) only [bI_some, bV_some, bR_some, bL_some, ob_some, cd_t, cd_f, cd_d, okO_setI, okA_setI, okL_setI, aLen_setI, hR_setI, hI_setI, Bool.true_and, Bool.and_true, Bool.and_self, Option.isNone_some, Option.isSome_some, Option.isNone_none, Option.isSome_none, okO_chI, okA_chI, okL_chI, aLen_chI, hR_chI, ↓reduceIte, not_true_eq_false, not_false_eq_true, eq_self, c10, Nat.zero_add, nI_add, litA, litB, litM, nI_mul, nI_leI, nI_ltI, nI_eq, litLe, litLe2, litLt, litLt2, litEq, litEq2, in_nI, lit_in, nI_clamp, lit_cl, if_pos, if_neg, WMd w', Q42 w' q', Q42 w' q2', hq, y2, y3, S34, mn_nI, es]
        · rw [hI_setI, if_neg (by omega)]; exact u' t (by omega) h2
        · rw [hI_setI]
          by_cases e : t = m + 1
          · subst e; rw [if_pos ⟨rfl, rfl⟩]
          · rw [if_neg (fun q => e q.2)]; exact l' t (by omega)) F2 0 (setI k' 132 0 (nI (i + 1))) (none, none) (by omega) ⟨w', p'.set _ _ (by omega), fun t h1 h2 => by rw [hI_setI, if_neg (by omega)]; exact u' t h2, fun t ht => by
        have : t = 0 := by omega
        subst this
        rw [hI_setI, if_pos ⟨rfl, rfl⟩, hEi]⟩
    refine ⟨k3, (some (rz_i (nI (E i F2))), some (rz_i (nI F2)), none, none), ?_, w3, p3, fun t ht => l3 t ht⟩
    have y := u' 0 (by omega)
    rw [E108_18]
    simp (disch := omega) only [bI_some, bV_some, bR_some, bL_some, ob_some, cd_t, cd_f, cd_d, okO_setI, okA_setI, okL_setI, aLen_setI, hR_setI, hI_setI, Bool.true_and, Bool.and_true, Bool.and_self, Option.isNone_some, Option.isSome_some, Option.isNone_none, Option.isSome_none, okO_chI, okA_chI, okL_chI, aLen_chI, hR_chI, ↓reduceIte, not_true_eq_false, not_false_eq_true, eq_self, c10, Nat.zero_add, nI_add, litA, litB, litM, nI_mul, nI_leI, nI_ltI, nI_eq, litLe, litLe2, litLt, litLt2, litEq, litEq2, in_nI, lit_in, nI_clamp, lit_cl, if_pos, if_neg, WMd w', Q41 w' q', y]
    refine Eq.trans e3 ?_
    rw [E108_37]
    simp (disch := omega) only [bI_some, bV_some, bR_some, bL_some, ob_some, cd_t, cd_f, cd_d, okO_setI, okA_setI, okL_setI, aLen_setI, hR_setI, hI_setI, Bool.true_and, Bool.and_true, Bool.and_self, Option.isNone_some, Option.isSome_some, Option.isNone_none, Option.isSome_none, okO_chI, okA_chI, okL_chI, aLen_chI, hR_chI, ↓reduceIte, not_true_eq_false, not_false_eq_true, eq_self, c10, Nat.zero_add, nI_add, litA, litB, litM, nI_mul, nI_leI, nI_ltI, nI_eq, litLe, litLe2, litLt, litLt2, litEq, litEq2, in_nI, lit_in, nI_clamp, lit_cl, if_pos, if_neg]
  obtain ⟨k5, j5, e5, w5, p5, u5⟩ := lp_h (fun i k' (z : Option rz_V × Option rz_V × Option rz_V × Option rz_V) => rW (d + 2) 108 (18, (0, 0), [some (rz_r (some 109)), some (rz_i (nI k)), some (rz_i (nI l)), some (rz_i (nI f)), some (rz_i (nI F2)), some (rz_i (nI i)), z.1, z.2.1, z.2.2.1, z.2.2.2], [], k')) (fun i k' => Wf rb dr jd k' ∧ Kp h k' ∧ ∀ t, t ≤ F2 → hI k' 132 t = nI (E i t)) F rows F 0 k1 (none, none, none, none) (by omega) ⟨w1, p1, fun t ht => u1 t (by omega)⟩
  refine ⟨k5, ?_, w5, p5⟩
  rw [E108]
  simp (disch := omega) only [bI_some, bV_some, bR_some, bL_some, ob_some, cd_t, cd_f, cd_d, okO_setI, okA_setI, okL_setI, aLen_setI, hR_setI, hI_setI, Bool.true_and, Bool.and_true, Bool.and_self, Option.isNone_some, Option.isSome_some, Option.isNone_none, Option.isSome_none, okO_chI, okA_chI, okL_chI, aLen_chI, hR_chI, ↓reduceIte, not_true_eq_false, not_false_eq_true, eq_self, c10, WMd w, Q41 w q2]
  refine Eq.trans e1 ?_
  rw [E108_6]
  simp (disch := omega) only [bI_some, bV_some, bR_some, bL_some, ob_some, cd_t, cd_f, cd_d, okO_setI, okA_setI, okL_setI, aLen_setI, hR_setI, hI_setI, Bool.true_and, Bool.and_true, Bool.and_self, Option.isNone_some, Option.isSome_some, Option.isNone_none, Option.isSome_none, okO_chI, okA_chI, okL_chI, aLen_chI, hR_chI, ↓reduceIte, not_true_eq_false, not_false_eq_true, eq_self, c10, Nat.zero_add, nI_add, litA, litB, litM, nI_mul, nI_leI, nI_ltI, nI_eq, litLe, litLe2, litLt, litLt2, litEq, litEq2, in_nI, lit_in, nI_clamp, lit_cl, if_pos, if_neg]
  refine Eq.trans e5 ?_
  have y := u5 F2 (by omega)
  rw [E108_18]
  simp (disch := omega) only [bI_some, bV_some, bR_some, bL_some, ob_some, cd_t, cd_f, cd_d, okO_setI, okA_setI, okL_setI, aLen_setI, hR_setI, hI_setI, Bool.true_and, Bool.and_true, Bool.and_self, Option.isNone_some, Option.isSome_some, Option.isNone_none, Option.isSome_none, okO_chI, okA_chI, okL_chI, aLen_chI, hR_chI, ↓reduceIte, not_true_eq_false, not_false_eq_true, eq_self, c10, Nat.zero_add, nI_add, litA, litB, litM, nI_mul, nI_leI, nI_ltI, nI_eq, litLe, litLe2, litLt, litLt2, litEq, litEq2, in_nI, lit_in, nI_clamp, lit_cl, if_pos, if_neg, WMd w5, Q41 w5 (q.kc p5.1), y]
  rw [← hE]
  rfl
theorem edt_eq (e : Nat → Nat) {F B : Nat} (h0 : 0 < F) (hB : B < 1000) (he : ∀ t, e t ≤ B) : itr (fun t m => mn m (nI (e t))) 0 F (nI B) = itr (fun t m => mn m (nI (e t))) 0 F 1000000 := by
  obtain ⟨n, rfl⟩ : ∃ n, F = n + 1 := ⟨F - 1, by omega⟩
  show itr _ 1 n (mn (nI B) (nI (e 0))) = itr _ 1 n (mn 1000000 (nI (e 0)))
  have := he 0
  rw [mn_nI (by omega) (by omega), show (1000000 : Int32) = nI 1000000 from rfl, mn_nI (by omega) (by omega), Nat.min_eq_right (by omega), Nat.min_eq_right (by omega)]
theorem P15 (x y : Int32) : Pr Rel 15 109 [rz_i x, rz_i y] := by
  intro h r
  obtain ⟨rb, dr, jd, w, r1, r2, r3, r4, r5⟩ := id r
  rcases tld r1 r2 x with ⟨k, F, g, rfl, q⟩ | n
  · rcases tld r1 r2 y with ⟨l, F2, g2, rfl, q2⟩ | n2
    · have hF := q.2.2.1
      have hF0 := q.2.1
      have hF2 := q2.2.2.1
      obtain ⟨k1, j1, e1, w1, p1⟩ := lp_h (τ := Unit) (fun t k' _ => rW 98 240 (8, (0, 0), [some (rz_r (some 103)), some (rz_r (some (5 + 3 * k))), some (rz_r (some (5 + 3 * l))), some (rz_i (itr (fun t m => mn m (nI (edt (Gp F g) (Gp F2 g2) F F2 t))) 0 t (nI (F + F2)))), some (rz_i (nI t))], [], k')) (fun t k' => Wf rb dr jd k' ∧ Kp h k') F (fun t k' _ ht ⟨w', p'⟩ => by
          obtain ⟨k2, c2, w2, p2⟩ := Q241 w' (q.kc p'.1) (q2.kc p'.1) 95 t
          refine ⟨k2, (), ?_, w2, p'.trans p2⟩
          rw [E240_8, itr_succ, Nat.zero_add]
          simp (disch := omega) only [bI_some, bV_some, bR_some, bL_some, ob_some, cd_t, cd_f, cd_d, okO_setI, okA_setI, okL_setI, aLen_setI, hR_setI, hI_setI, Bool.true_and, Bool.and_true, Bool.and_self, Option.isNone_some, Option.isSome_some, Option.isNone_none, Option.isSome_none, okO_chI, okA_chI, okL_chI, aLen_chI, hR_chI, ↓reduceIte, not_true_eq_false, not_false_eq_true, eq_self, c10, Nat.zero_add, nI_add, litA, litB, litM, nI_mul, nI_leI, nI_ltI, nI_eq, litLe, litLe2, litLt, litLt2, litEq, litEq2, in_nI, lit_in, nI_clamp, lit_cl, if_pos, if_neg, WRi w', WD w' (isD_3 q.1), Q136 w' (q.kc p'.1), c2, T278]) F 0 h () (by omega) ⟨w, Kp.refl h⟩
      obtain ⟨k3, j3, e3, w3, p3⟩ := lp_h (τ := Unit) (fun t k' _ => rW 99 109 (11, (0, 0), [some (rz_r (some 109)), some (rz_i (nI k)), some (rz_i (nI l)), some (rz_i (itr (fun t m => mn m (nI (edt (Gp F g) (Gp F2 g2) F F2 t))) 0 t 1000000)), some (rz_i (nI t))], [], k')) (fun t k' => Wf rb dr jd k' ∧ Kp h k') F (fun t k' _ ht ⟨w', p'⟩ => by
          obtain ⟨k2, c2, w2, p2⟩ := Q108 w' (q.kc p'.1) (q2.kc p'.1) 96 t
          refine ⟨k2, (), ?_, w2, p'.trans p2⟩
          rw [E109_11, itr_succ, Nat.zero_add]
          simp (disch := omega) only [bI_some, bV_some, bR_some, bL_some, ob_some, cd_t, cd_f, cd_d, okO_setI, okA_setI, okL_setI, aLen_setI, hR_setI, hI_setI, Bool.true_and, Bool.and_true, Bool.and_self, Option.isNone_some, Option.isSome_some, Option.isNone_none, Option.isSome_none, okO_chI, okA_chI, okL_chI, aLen_chI, hR_chI, ↓reduceIte, not_true_eq_false, not_false_eq_true, eq_self, c10, Nat.zero_add, nI_add, litA, litB, litM, nI_mul, nI_leI, nI_ltI, nI_eq, litLe, litLe2, litLt, litLt2, litEq, litEq2, in_nI, lit_in, nI_clamp, lit_cl, if_pos, if_neg, WMd w', Q41 w' (q.kc p'.1), c2, S34]) F 0 k1 () (by omega) ⟨w1, p1⟩
      refine ⟨itr (fun t m => mn m (nI (edt (Gp F g) (Gp F2 g2) F F2 t))) 0 F (nI (F + F2)), k1, k3, ?_, ?_, (WMd w1).1, R5.kp ⟨r1, r2, r3, r4, r5⟩ w3 p3⟩
      · rw [show DD = 99 + 1 from rfl, E15]
        simp only [bI_some, bV_some, bR_some, bL_some, ob_some, cd_t, cd_f, cd_d, okO_setI, okA_setI, okL_setI, aLen_setI, hR_setI, hI_setI, Bool.true_and, Bool.and_true, Bool.and_self, Option.isNone_some, Option.isSome_some, Option.isNone_none, Option.isSome_none, okO_chI, okA_chI, okL_chI, aLen_chI, hR_chI, ↓reduceIte, not_true_eq_false, not_false_eq_true, eq_self, c10, WRt w, Q181 w q, Q181 w q2]
        rw [E240]
        simp only [bI_some, bV_some, bR_some, bL_some, ob_some, cd_t, cd_f, cd_d, okO_setI, okA_setI, okL_setI, aLen_setI, hR_setI, hI_setI, Bool.true_and, Bool.and_true, Bool.and_self, Option.isNone_some, Option.isSome_some, Option.isNone_none, Option.isSome_none, okO_chI, okA_chI, okL_chI, aLen_chI, hR_chI, ↓reduceIte, not_true_eq_false, not_false_eq_true, eq_self, c10, nI_add, WD w (isD_3 q.1), WD w (isD_3 q2.1), Q136 w q, Q136 w q2]
        rw [show (0 : Int32) = nI 0 from rfl]
        refine Eq.trans (congrArg (fun v => bI v fun x9 h8 => some (rz_i x9, h8)) (Eq.trans e1 (b := _) (c := some (rz_i (itr (fun t m => mn m (nI (edt (Gp F g) (Gp F2 g2) F F2 t))) 0 F (nI (F + F2))), k1)) ?_)) rfl
        rw [E240_8]
        simp (disch := omega) only [bI_some, bV_some, bR_some, bL_some, ob_some, cd_t, cd_f, cd_d, okO_setI, okA_setI, okL_setI, aLen_setI, hR_setI, hI_setI, Bool.true_and, Bool.and_true, Bool.and_self, Option.isNone_some, Option.isSome_some, Option.isNone_none, Option.isSome_none, okO_chI, okA_chI, okL_chI, aLen_chI, hR_chI, ↓reduceIte, not_true_eq_false, not_false_eq_true, eq_self, c10, Nat.zero_add, nI_add, litA, litB, litM, nI_mul, nI_leI, nI_ltI, nI_eq, litLe, litLe2, litLt, litLt2, litEq, litEq2, in_nI, lit_in, nI_clamp, lit_cl, if_pos, if_neg, WD w1 (isD_3 q.1), Q136 w1 (q.kc p1.1)]
      · rw [show DD = 99 + 1 from rfl, E109]
        simp only [bI_some, bV_some, bR_some, bL_some, ob_some, cd_t, cd_f, cd_d, okO_setI, okA_setI, okL_setI, aLen_setI, hR_setI, hI_setI, Bool.true_and, Bool.and_true, Bool.and_self, Option.isNone_some, Option.isSome_some, Option.isNone_none, Option.isSome_none, okO_chI, okA_chI, okL_chI, aLen_chI, hR_chI, ↓reduceIte, not_true_eq_false, not_false_eq_true, eq_self, c10, WMd w1, Q40 w1 (q.kc p1.1) (q2.kc p1.1)]
        refine Eq.trans e3 ?_
        have eq := edt_eq (fun t => edt (Gp F g) (Gp F2 g2) F F2 t) hF0 (show F + F2 < 1000 by omega) (fun t => edr_le _ F F2)
        rw [E109_11, eq]
        simp (disch := omega) only [bI_some, bV_some, bR_some, bL_some, ob_some, cd_t, cd_f, cd_d, okO_setI, okA_setI, okL_setI, aLen_setI, hR_setI, hI_setI, Bool.true_and, Bool.and_true, Bool.and_self, Option.isNone_some, Option.isSome_some, Option.isNone_none, Option.isSome_none, okO_chI, okA_chI, okL_chI, aLen_chI, hR_chI, ↓reduceIte, not_true_eq_false, not_false_eq_true, eq_self, c10, Nat.zero_add, nI_add, litA, litB, litM, nI_mul, nI_leI, nI_ltI, nI_eq, litLe, litLe2, litLt, litLt2, litEq, litEq2, in_nI, lit_in, nI_clamp, lit_cl, if_pos, if_neg, WMd w3, Q41 w3 (q.kc p3.1)]
    · refine ⟨-1, h, h, ?_, ?_, (WMd w).1, r⟩
      · rw [show DD = 99 + 1 from rfl, E15]
        simp only [bI_some, bV_some, bR_some, bL_some, ob_some, cd_t, cd_f, cd_d, okO_setI, okA_setI, okL_setI, aLen_setI, hR_setI, hI_setI, Bool.true_and, Bool.and_true, Bool.and_self, Option.isNone_some, Option.isSome_some, Option.isNone_none, Option.isSome_none, okO_chI, okA_chI, okL_chI, aLen_chI, hR_chI, ↓reduceIte, not_true_eq_false, not_false_eq_true, eq_self, c10, WRt w, Q181 w q, N181 w n2]
      · rw [show DD = 99 + 1 from rfl, E109]
        simp only [bI_some, bV_some, bR_some, bL_some, ob_some, cd_t, cd_f, cd_d, okO_setI, okA_setI, okL_setI, aLen_setI, hR_setI, hI_setI, Bool.true_and, Bool.and_true, Bool.and_self, Option.isNone_some, Option.isSome_some, Option.isNone_none, Option.isSome_none, okO_chI, okA_chI, okL_chI, aLen_chI, hR_chI, ↓reduceIte, not_true_eq_false, not_false_eq_true, eq_self, c10, WMd w, N40b w q n2]
  · refine ⟨-1, h, h, ?_, ?_, (WMd w).1, r⟩
    · rw [show DD = 99 + 1 from rfl, E15]
      rcases tld r1 r2 y with ⟨l, F2, g2, rfl, q2⟩ | n2
      · simp only [bI_some, bV_some, bR_some, bL_some, ob_some, cd_t, cd_f, cd_d, okO_setI, okA_setI, okL_setI, aLen_setI, hR_setI, hI_setI, Bool.true_and, Bool.and_true, Bool.and_self, Option.isNone_some, Option.isSome_some, Option.isNone_none, Option.isSome_none, okO_chI, okA_chI, okL_chI, aLen_chI, hR_chI, ↓reduceIte, not_true_eq_false, not_false_eq_true, eq_self, c10, WRt w, N181 w n, Q181 w q2]
      · simp only [bI_some, bV_some, bR_some, bL_some, ob_some, cd_t, cd_f, cd_d, okO_setI, okA_setI, okL_setI, aLen_setI, hR_setI, hI_setI, Bool.true_and, Bool.and_true, Bool.and_self, Option.isNone_some, Option.isSome_some, Option.isNone_none, Option.isSome_none, okO_chI, okA_chI, okL_chI, aLen_chI, hR_chI, ↓reduceIte, not_true_eq_false, not_false_eq_true, eq_self, c10, WRt w, N181 w n, N181 w n2]
    · rw [show DD = 99 + 1 from rfl, E109]
      simp only [bI_some, bV_some, bR_some, bL_some, ob_some, cd_t, cd_f, cd_d, okO_setI, okA_setI, okL_setI, aLen_setI, hR_setI, hI_setI, Bool.true_and, Bool.and_true, Bool.and_self, Option.isNone_some, Option.isSome_some, Option.isNone_none, Option.isSome_none, okO_chI, okA_chI, okL_chI, aLen_chI, hR_chI, ↓reduceIte, not_true_eq_false, not_false_eq_true, eq_self, c10, WMd w, N40a w n]
