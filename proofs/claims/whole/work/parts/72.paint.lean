/-! the fewest to be painted over -/
theorem lp_ji {σ τ ρ : Type} (P : Nat → σ → τ → ρ) (f : Nat → σ → σ) (I : Nat → σ → Prop) (n : Nat) (hs : ∀ i s j, i < n → I i s → (∃ j2, P i s j = P (i + 1) (f i s) j2) ∧ I (i + 1) (f i s)) : ∀ (c i : Nat) (s : σ) (j : τ), i + c = n → I i s → (∃ j2, P i s j = P n (itr f i c s) j2) ∧ I n (itr f i c s)
  | 0, i, s, j, e, h => by
    have : i = n := by omega
    subst this
    exact ⟨⟨j, rfl⟩, h⟩
  | c + 1, i, s, j, e, h => by
    obtain ⟨⟨j2, e2⟩, h2⟩ := hs i s j (by omega) h
    rw [e2]
    exact lp_ji P f I n hs c (i + 1) (f i s) j2 (by omega) h2
theorem Kp.ch {h k : rz_H} (e : Kp h k) {R : Nat} {f : Nat → Nat → Int32} (hs : (102 ≤ R ∧ R < 109) ∨ R = 111 ∨ (114 ≤ R ∧ R < 120) ∨ 125 ≤ R) (hf : ∀ b i, b ≠ R → f b i = hI k b i) : Kp h (chI k f) := by
  refine ⟨fun b i h1 h2 => ?_, ?_, ?_⟩
  · rw [hI_chI, hf b i (by omega)]; exact e.1 b i h1 h2
  · rw [hI_chI, hf 1 1 (by omega)]; exact e.2.1
  · rw [hI_chI, hf 109 4 (by omega)]; exact e.2.2
/-- how many frames stand d apart from a on -/
def nst (F a d : Nat) : Nat := (F - a + d - 1) / d
theorem nst_lt {F a d j : Nat} (hd : 0 < d) (hj : j < nst F a d) : a + j * d < F := by
  unfold nst at hj
  have h1 : (j + 1) * d ≤ F - a + d - 1 := Nat.le_trans (Nat.mul_le_mul_right d hj) (Nat.div_mul_le_self _ d)
  rw [Nat.add_mul, Nat.one_mul] at h1
  omega
theorem nst_ge {F a d : Nat} (hd : 0 < d) (ha : a ≤ F) : F ≤ a + nst F a d * d := by
  unfold nst
  have h1 : F - a + d - 1 < ((F - a + d - 1) / d + 1) * d := by
    rw [Nat.mul_comm]; exact Nat.lt_mul_div_succ _ hd
  rw [Nat.add_mul, Nat.one_mul] at h1
  omega
theorem nst_in {F a d j : Nat} (hd : 0 < d) (hj : a + j * d < F) : j < nst F a d := by
  have h1 := nst_ge (F := F) (a := a) hd (by omega)
  apply Nat.lt_of_mul_lt_mul_right (a := d)
  omega
def tal (v : Nat → Nat) (j : Nat) (s : (Nat → Nat) × Nat) : (Nat → Nat) × Nat := (fun c => if c = v j then s.1 (v j) + 1 else s.1 c, max s.2 (s.1 (v j) + 1))
def tls (v : Nat → Nat) (n : Nat) : (Nat → Nat) × Nat := itr (tal v) 0 n (fun _ => 0, 0)
theorem tls_s (v : Nat → Nat) (n : Nat) : tls v (n + 1) = tal v n (tls v n) := by
  unfold tls
  rw [itr_succ, Nat.zero_add]
def pnt (F : Nat) (g : Nat → Nat) (d : Nat) : Nat := itr (fun a s => s + (nst F a d - (tls (fun j => gv F g (nI (a + j * d))) (nst F a d)).2)) 0 d 0
theorem tls_ok (v : Nat → Nat) : ∀ n, (∀ c, (tls v n).1 c = cnt (fun m => decide (v m = c)) n) ∧ (tls v n).2 ≤ n ∧ ((tls v n).2 = n ↔ ∀ m, m < n → v m = v 0)
  | 0 => ⟨fun c => rfl, Nat.le_refl _, ⟨fun _ m hm => absurd hm (by omega), fun _ => rfl⟩⟩
  | n + 1 => by
    obtain ⟨h1, h2, h3⟩ := tls_ok v n
    have hc : ∀ c, cnt (fun m => decide (v m = c)) (n + 1) = if v n = c then cnt (fun m => decide (v m = c)) n + 1 else cnt (fun m => decide (v m = c)) n := fun c => by
      rw [cnt_s]
      by_cases h : v n = c <;> simp [h]
    have hm : (tls v (n + 1)).2 = max (tls v n).2 (cnt (fun m => decide (v m = v n)) n + 1) := by
      rw [tls_s]
      show max _ ((tls v n).1 (v n) + 1) = _
      rw [h1]
    have hl := cnt_le (fun m => decide (v m = v n)) n
    refine ⟨fun c => ?_, by rw [hm]; omega, ?_⟩
    · rw [tls_s, hc]
      show (if c = v n then (tls v n).1 (v n) + 1 else (tls v n).1 c) = _
      rw [h1, h1]
      by_cases h : v n = c
      · rw [if_pos h, if_pos h.symm, h]
      · rw [if_neg h, if_neg (fun e => h e.symm)]
    · rw [hm]
      have ha := cnt_all (fun m => decide (v m = v n)) n
      constructor
      · intro e
        have e2 := ha.mp (by omega)
        have e3 : ∀ m, m < n + 1 → v m = v n := fun m hm => by
          by_cases e : m = n
          · rw [e]
          · exact of_decide_eq_true (e2 m (by omega))
        intro m hm
        rw [e3 m hm, e3 0 (by omega)]
      · intro e
        have : cnt (fun m => decide (v m = v n)) n = n := ha.mpr (fun m hm => decide_eq_true (by rw [e m (by omega), e n (by omega)]))
        omega
def rowH (h : rz_H) (R n : Nat) (t : Nat → Nat) : rz_H := chI h (fun b i => if b = R ∧ i < n then nI (t i) else hI h b i)
theorem rowH_set {h : rz_H} {R n c v : Nat} {t : Nat → Nat} (hc : c < n) : setI (rowH h R n t) R c (nI v) = rowH h R n (fun i => if i = c then v else t i) := by
  unfold rowH
  rw [setI_chI]
  refine chI_ext fun b i => ?_
  by_cases hb : b = R
  · subst hb
    by_cases hi : i = c
    · subst hi
      dsimp only
      rw [if_pos ⟨rfl, rfl⟩, if_pos ⟨rfl, hc⟩, if_pos rfl]
    · dsimp only
      rw [if_neg (fun q => hi q.2), if_neg hi]
  · rw [if_neg (fun q => hb q.1), if_neg (fun q => hb q.1), if_neg (fun q => hb q.1)]
theorem rowH_at {h : rz_H} {R n i : Nat} {t : Nat → Nat} (hi : i < n) : hI (rowH h R n t) R i = nI (t i) := by
  unfold rowH
  rw [hI_chI, if_pos ⟨rfl, hi⟩]
theorem rowH_out {h : rz_H} {R n b i : Nat} {t : Nat → Nat} (hb : b ≠ R) : hI (rowH h R n t) b i = hI h b i := by
  unfold rowH
  rw [hI_chI, if_neg (fun q => hb q.1)]
theorem Wf.rowH {rb dr : Nat} {jd : Option Nat} {h : rz_H} (w : Wf rb dr jd h) (R n : Nat) (t : Nat → Nat) : Wf rb dr jd (rowH h R n t) := w
theorem Kp.rowH {h k : rz_H} (e : Kp h k) {R n : Nat} {t : Nat → Nat} (hs : (102 ≤ R ∧ R < 109) ∨ R = 111 ∨ (114 ≤ R ∧ R < 120) ∨ 125 ≤ R) : Kp h (rowH k R n t) := e.ch hs (fun b i hb => if_neg (fun q => hb q.1))
/-- the row is set to zeros -/
theorem row0 {ρ : Type} (P : Nat → rz_H → ρ) (h : rz_H) (R n : Nat) (hs : ∀ j k, j < n → k.2 = h.2 → P j k = P (j + 1) (setI k R j 0)) : P 0 h = P n (rowH h R n (fun _ => 0)) := by
  have key := lp_u (fun j => P j (chI h (fun b i => if b = R ∧ i < j then 0 else hI h b i))) n (fun j hj => by
    show P j (chI h (fun b i => if b = R ∧ i < j then 0 else hI h b i)) = _
    rw [hs j (chI h (fun b i => if b = R ∧ i < j then 0 else hI h b i)) hj rfl, setI_chI]
    refine congrArg (P (j + 1)) (chI_ext fun b i => ?_)
    by_cases hb : b = R
    · subst hb
      by_cases hi : i = j
      · subst hi; simp
      · by_cases h2 : i < j
        · simp [hi, h2, show i < j + 1 by omega]
        · simp [hi, h2, show ¬ i < j + 1 by omega]
    · simp [hb])
  have e0 : chI h (fun b i => if b = R ∧ i < 0 then 0 else hI h b i) = h := by
    rw [← chI_self h]
    exact chI_ext fun b i => by simp [hI_chI]
  simp only [e0] at key
  exact key
theorem Q239i {rb dr : Nat} {jd : Option Nat} {h : rz_H} (w : Wf rb dr jd h) {k F : Nat} {g : Nat → Nat} (q : Dq h k F g) (d a m : Nat) (hm : 0 < m) (hmF : m ≤ F) (ha : a < m) (s : Nat) : ∃ j : Option rz_V × Option rz_V × Option rz_V × Option rz_V, rW (d + 3) 239 (13, (0, 0), [some (rz_r (some 103)), some (rz_r (some (5 + 3 * k))), some (rz_i (nI m)), some (rz_i (nI s)), some (rz_i (nI a)), some (rz_i 0), none, none, none], [], h) = rW (d + 3) 239 (4, (0, 0), [some (rz_r (some 103)), some (rz_r (some (5 + 3 * k))), some (rz_i (nI m)), some (rz_i (nI (s + (nst F a m - (tls (fun j => gv F g (nI (a + j * m))) (nst F a m)).2)))), some (rz_i (nI (a + 1))), j.1, j.2.1, j.2.2.1, j.2.2.2], [], rowH h 106 17 (tls (fun j => gv F g (nI (a + j * m))) (nst F a m)).1) := by
  have hF := q.2.2.1
  have e1 := row0 (fun j k' => rW (d + 3) 239 (13, (0, 0), [some (rz_r (some 103)), some (rz_r (some (5 + 3 * k))), some (rz_i (nI m)), some (rz_i (nI s)), some (rz_i (nI a)), some (rz_i (nI j)), none, none, none], [], k')) h 106 17 (fun j k' hj e => by
    have w2 : Wf rb dr jd k' := by unfold Wf hR; rw [e]; exact w
    show rW (d + 3) 239 (13, (0, 0), [some (rz_r (some 103)), some (rz_r (some (5 + 3 * k))), some (rz_i (nI m)), some (rz_i (nI s)), some (rz_i (nI a)), some (rz_i (nI j)), none, none, none], [], k') = _
    rw [E239_13]
    simp (disch := omega) only [bI_some, bV_some, bR_some, bL_some, ob_some, cd_t, cd_f, cd_d, okO_setI, okA_setI, okL_setI, aLen_setI, hR_setI, hI_setI, Bool.true_and, Bool.and_true, Bool.and_self, Option.isNone_some, Option.isSome_some, Option.isNone_none, Option.isSome_none, okO_chI, okA_chI, okL_chI, aLen_chI, hR_chI, ↓reduceIte, not_true_eq_false, not_false_eq_true, eq_self, c10, Nat.zero_add, nI_add, litA, litB, litM, nI_mul, nI_leI, nI_ltI, nI_eq, litLe, litLe2, litLt, litLt2, litEq, litEq2, in_nI, lit_in, nI_clamp, lit_cl, if_pos, if_neg, WRi w2])
  have hn : nst F a m ≤ 16 := by
    rcases Nat.eq_zero_or_pos (nst F a m) with e | e
    · omega
    · have h1 := nst_lt hm (Nat.sub_lt e (by omega) : nst F a m - 1 < nst F a m)
      have h2 : nst F a m - 1 ≤ (nst F a m - 1) * m := Nat.le_mul_of_pos_right _ hm
      omega
  obtain ⟨⟨j2, e2⟩, ⟨i1, i2⟩⟩ := lp_ji (fun j (t : (Nat → Nat) × Nat) z => rW (d + 3) 239 (31, (0, 0), [some (rz_r (some 103)), some (rz_r (some (5 + 3 * k))), some (rz_i (nI m)), some (rz_i (nI s)), some (rz_i (nI a)), some (rz_i (nI j)), some (rz_i (nI t.2)), some (rz_i (nI (a + j * m))), z], [], rowH h 106 17 t.1)) (tal (fun j => gv F g (nI (a + j * m)))) (fun j t => t.2 ≤ j ∧ ∀ c, t.1 c ≤ j) (nst F a m) (fun j t z hj ht => by
      obtain ⟨t1, t2⟩ := t
      obtain ⟨ht1, ht2⟩ := ht
      have ht1 : t2 ≤ j := ht1
      have hlt := nst_lt hm hj
      have hg := q.gv (nI (a + j * m))
      have hq := q.kc (Kp.rowH (Kp.refl h) (R := 106) (n := 17) (t := t1) (by omega)).1
      have ht3 : t1 (gv F g (nI (a + j * m))) ≤ j := ht2 _
      refine ⟨⟨some (rz_i (Gp F g (nI (a + j * m)))), ?_⟩, ?_, fun c => ?_⟩
      · have w2 := w.rowH 106 17 t1
        have w3 := fun v => (w2.setI 106 (gv F g (nI (a + j * m))) v)
        show rW (d + 3) 239 (31, (0, 0), [some (rz_r (some 103)), some (rz_r (some (5 + 3 * k))), some (rz_i (nI m)), some (rz_i (nI s)), some (rz_i (nI a)), some (rz_i (nI j)), some (rz_i (nI t2)), some (rz_i (nI (a + j * m))), z], [], rowH h 106 17 t1) = _
        rw [E239_31]
        have eat : hI (rowH h 106 17 t1) 106 (gv F g (nI (a + j * m))) = nI (t1 (gv F g (nI (a + j * m)))) := rowH_at (by omega)
        have eset := rowH_set (h := h) (R := 106) (n := 17) (c := gv F g (nI (a + j * m))) (v := t1 (gv F g (nI (a + j * m))) + 1) (t := t1) (by omega)
        simp (disch := omega) only [bI_some, bV_some, bR_some, bL_some, ob_some, cd_t, cd_f, cd_d, okO_setI, okA_setI, okL_setI, aLen_setI, hR_setI, hI_setI, Bool.true_and, Bool.and_true, Bool.and_self, Option.isNone_some, Option.isSome_some, Option.isNone_none, Option.isSome_none, okO_chI, okA_chI, okL_chI, aLen_chI, hR_chI, ↓reduceIte, not_true_eq_false, not_false_eq_true, eq_self, c10, Nat.zero_add, nI_add, litA, litB, litM, nI_mul, nI_leI, nI_ltI, nI_eq, litLe, litLe2, litLt, litLt2, litEq, litEq2, in_nI, lit_in, nI_clamp, lit_cl, if_pos, if_neg, WRi w2, WD w2 (isD_3 q.1), Q136 w2 hq, Q144 w2 hq, Gp_gv, eat, eset, T277, and_self, mx_nI]
        rw [show a + (j + 1) * m = a + j * m + m by rw [Nat.add_mul]; omega]
        rfl
      · show max t2 (t1 (gv F g (nI (a + j * m))) + 1) ≤ j + 1
        omega
      · show (if c = gv F g (nI (a + j * m)) then t1 (gv F g (nI (a + j * m))) + 1 else t1 c) ≤ j + 1
        have : t1 c ≤ j := ht2 c
        split <;> omega) (nst F a m) 0 ((fun _ => 0), 0) none (by omega) ⟨Nat.le_refl _, fun _ => Nat.le_refl _⟩
  refine ⟨(some (rz_i (nI (nst F a m))), some (rz_i (nI (tls (fun j => gv F g (nI (a + j * m))) (nst F a m)).2)), some (rz_i (nI (a + nst F a m * m))), none), Eq.trans e1 ?_⟩
  have w2 := w.rowH 106 17 (fun _ => 0)
  rw [E239_13]
  simp (disch := omega) only [bI_some, bV_some, bR_some, bL_some, ob_some, cd_t, cd_f, cd_d, okO_setI, okA_setI, okL_setI, aLen_setI, hR_setI, hI_setI, Bool.true_and, Bool.and_true, Bool.and_self, Option.isNone_some, Option.isSome_some, Option.isNone_none, Option.isSome_none, okO_chI, okA_chI, okL_chI, aLen_chI, hR_chI, ↓reduceIte, not_true_eq_false, not_false_eq_true, eq_self, c10, Nat.zero_add, nI_add, litA, litB, litM, nI_mul, nI_leI, nI_ltI, nI_eq, litLe, litLe2, litLt, litLt2, litEq, litEq2, in_nI, lit_in, nI_clamp, lit_cl, if_pos, if_neg, WRi w2]
  simp only [Nat.zero_mul, Nat.add_zero] at e2
  refine Eq.trans e2 ?_
  rw [show itr (tal fun j => gv F g (nI (a + j * m))) 0 (nst F a m) (fun _ => 0, 0) = tls (fun j => gv F g (nI (a + j * m))) (nst F a m) from rfl] at *
  have w3 := w.rowH 106 17 (tls (fun j => gv F g (nI (a + j * m))) (nst F a m)).1
  have hq := q.kc (Kp.rowH (Kp.refl h) (R := 106) (n := 17) (t := (tls (fun j => gv F g (nI (a + j * m))) (nst F a m)).1) (by omega)).1
  have hge := nst_ge (F := F) (a := a) hm (by omega)
  have hub : a + nst F a m * m < 1000 := by
    have : nst F a m * m ≤ 16 * 16 := Nat.mul_le_mul hn (by omega)
    omega
  have i1 : (tls (fun j => gv F g (nI (a + j * m))) (nst F a m)).2 ≤ nst F a m := i1
  rw [E239_31]
  simp (disch := omega) only [bI_some, bV_some, bR_some, bL_some, ob_some, cd_t, cd_f, cd_d, okO_setI, okA_setI, okL_setI, aLen_setI, hR_setI, hI_setI, Bool.true_and, Bool.and_true, Bool.and_self, Option.isNone_some, Option.isSome_some, Option.isNone_none, Option.isSome_none, okO_chI, okA_chI, okL_chI, aLen_chI, hR_chI, ↓reduceIte, not_true_eq_false, not_false_eq_true, eq_self, c10, Nat.zero_add, nI_add, litA, litB, litM, nI_mul, nI_leI, nI_ltI, nI_eq, litLe, litLe2, litLt, litLt2, litEq, litEq2, in_nI, lit_in, nI_clamp, lit_cl, if_pos, if_neg, WD w3 (isD_3 q.1), Q136 w3 hq, nI_sub]
theorem Q239 {rb dr : Nat} {jd : Option Nat} {h : rz_H} (w : Wf rb dr jd h) {k F : Nat} {g : Nat → Nat} (q : Dq h k F g) (d m : Nat) (hm : 0 < m) (hmF : m ≤ F) : ∃ k', cW (d + 4) 239 [rz_r (some 103), rz_r (some (5 + 3 * k)), rz_i (nI m)] h = some (rz_i (nI (pnt F g m)), k') ∧ Wf rb dr jd k' ∧ Kp h k' := by
  have hF := q.2.2.1
  have key : ∀ (c a s : Nat) (j : Option rz_V × Option rz_V × Option rz_V × Option rz_V) (h2 : rz_H), a + c = m → Wf rb dr jd h2 → Kp h h2 → ∃ k', rW (d + 3) 239 (4, (0, 0), [some (rz_r (some 103)), some (rz_r (some (5 + 3 * k))), some (rz_i (nI m)), some (rz_i (nI s)), some (rz_i (nI a)), j.1, j.2.1, j.2.2.1, j.2.2.2], [], h2) = some (rz_i (nI (itr (fun a s => s + (nst F a m - (tls (fun j => gv F g (nI (a + j * m))) (nst F a m)).2)) a c s)), k') ∧ Wf rb dr jd k' ∧ Kp h k' := by
    intro c
    induction c with
    | zero =>
      intro a s j h2 hc w2 e2
      refine ⟨h2, ?_, w2, e2⟩
      rw [E239_4]
      simp (disch := omega) only [bI_some, bV_some, bR_some, bL_some, ob_some, cd_t, cd_f, cd_d, okO_setI, okA_setI, okL_setI, aLen_setI, hR_setI, hI_setI, Bool.true_and, Bool.and_true, Bool.and_self, Option.isNone_some, Option.isSome_some, Option.isNone_none, Option.isSome_none, okO_chI, okA_chI, okL_chI, aLen_chI, hR_chI, ↓reduceIte, not_true_eq_false, not_false_eq_true, eq_self, c10, Nat.zero_add, nI_add, litA, litB, litM, nI_mul, nI_leI, nI_ltI, nI_eq, litLe, litLe2, litLt, litLt2, litEq, litEq2, in_nI, lit_in, nI_clamp, lit_cl, if_pos, if_neg]
      rfl
    | succ c ih =>
      intro a s j h2 hc w2 e2
      have q2 := q.kc e2.1
      obtain ⟨j2, e3⟩ := Q239i w2 q2 d a m hm hmF (by omega) s
      obtain ⟨k', e4, w4, e5⟩ := ih (a + 1) (s + (nst F a m - (tls (fun j => gv F g (nI (a + j * m))) (nst F a m)).2)) j2 (rowH h2 106 17 (tls (fun j => gv F g (nI (a + j * m))) (nst F a m)).1) (by omega) w2 (e2.rowH (by omega))
      refine ⟨k', ?_, w4, e5⟩
      rw [E239_4]
      simp (disch := omega) only [bI_some, bV_some, bR_some, bL_some, ob_some, cd_t, cd_f, cd_d, okO_setI, okA_setI, okL_setI, aLen_setI, hR_setI, hI_setI, Bool.true_and, Bool.and_true, Bool.and_self, Option.isNone_some, Option.isSome_some, Option.isNone_none, Option.isSome_none, okO_chI, okA_chI, okL_chI, aLen_chI, hR_chI, ↓reduceIte, not_true_eq_false, not_false_eq_true, eq_self, c10, Nat.zero_add, nI_add, litA, litB, litM, nI_mul, nI_leI, nI_ltI, nI_eq, litLe, litLe2, litLt, litLt2, litEq, litEq2, in_nI, lit_in, nI_clamp, lit_cl, if_pos, if_neg, WD w2 (isD_3 q.1), Q136 w2 q2]
      rw [e3]
      exact e4
  rw [E239]
  exact key m 0 0 (none, none, none, none) h (by omega) w (Kp.refl h)
theorem Q101i {rb dr : Nat} {jd : Option Nat} {h : rz_H} (w : Wf rb dr jd h) {k F : Nat} {g : Nat → Nat} (q : Dq h k F g) (d a m : Nat) (hm : 0 < m) (hmF : m ≤ F) (ha : a < m) (s : Nat) : ∃ j : Option rz_V × Option rz_V × Option rz_V, rW (d + 3) 101 (9, (0, 0), [some (rz_r (some 109)), some (rz_i (nI k)), some (rz_i (nI m)), some (rz_i (nI s)), some (rz_i (nI a)), some (rz_i 0), none, none], [], h) = rW (d + 3) 101 (4, (0, 0), [some (rz_r (some 109)), some (rz_i (nI k)), some (rz_i (nI m)), some (rz_i (nI (s + (nst F a m - (tls (fun j => gv F g (nI (a + j * m))) (nst F a m)).2)))), some (rz_i (nI (a + 1))), j.1, j.2.1, j.2.2], [], rowH h 131 17 (tls (fun j => gv F g (nI (a + j * m))) (nst F a m)).1) := by
  have hF := q.2.2.1
  have e1 := row0 (fun j k' => rW (d + 3) 101 (9, (0, 0), [some (rz_r (some 109)), some (rz_i (nI k)), some (rz_i (nI m)), some (rz_i (nI s)), some (rz_i (nI a)), some (rz_i (nI j)), none, none], [], k')) h 131 17 (fun j k' hj e => by
    have w2 : Wf rb dr jd k' := by unfold Wf hR; rw [e]; exact w
    show rW (d + 3) 101 (9, (0, 0), [some (rz_r (some 109)), some (rz_i (nI k)), some (rz_i (nI m)), some (rz_i (nI s)), some (rz_i (nI a)), some (rz_i (nI j)), none, none], [], k') = _
    rw [E101_9]
    simp (disch := omega) only [bI_some, bV_some, bR_some, bL_some, ob_some, cd_t, cd_f, cd_d, okO_setI, okA_setI, okL_setI, aLen_setI, hR_setI, hI_setI, Bool.true_and, Bool.and_true, Bool.and_self, Option.isNone_some, Option.isSome_some, Option.isNone_none, Option.isSome_none, okO_chI, okA_chI, okL_chI, aLen_chI, hR_chI, ↓reduceIte, not_true_eq_false, not_false_eq_true, eq_self, c10, Nat.zero_add, nI_add, litA, litB, litM, nI_mul, nI_leI, nI_ltI, nI_eq, litLe, litLe2, litLt, litLt2, litEq, litEq2, in_nI, lit_in, nI_clamp, lit_cl, if_pos, if_neg, WMd w2])
  have hn : nst F a m ≤ 16 := by
    rcases Nat.eq_zero_or_pos (nst F a m) with e | e
    · omega
    · have h1 := nst_lt hm (Nat.sub_lt e (by omega) : nst F a m - 1 < nst F a m)
      have h2 : nst F a m - 1 ≤ (nst F a m - 1) * m := Nat.le_mul_of_pos_right _ hm
      omega
  obtain ⟨⟨j2, e2⟩, ⟨i1, i2⟩⟩ := lp_ji (τ := Unit) (fun j (t : (Nat → Nat) × Nat) _ => rW (d + 3) 101 (25, (0, 0), [some (rz_r (some 109)), some (rz_i (nI k)), some (rz_i (nI m)), some (rz_i (nI s)), some (rz_i (nI a)), some (rz_i (nI j)), some (rz_i (nI t.2)), some (rz_i (nI (a + j * m)))], [], rowH h 131 17 t.1)) (tal (fun j => gv F g (nI (a + j * m)))) (fun j t => t.2 ≤ j ∧ ∀ c, t.1 c ≤ j) (nst F a m) (fun j t z hj ht => by
      obtain ⟨t1, t2⟩ := t
      obtain ⟨ht1, ht2⟩ := ht
      have ht1 : t2 ≤ j := ht1
      have hlt := nst_lt hm hj
      have hg := q.gv (nI (a + j * m))
      have hq := q.kc (Kp.rowH (Kp.refl h) (R := 131) (n := 17) (t := t1) (by omega)).1
      have ht3 : t1 (gv F g (nI (a + j * m))) ≤ j := ht2 _
      refine ⟨⟨(), ?_⟩, ?_, fun c => ?_⟩
      · have w2 := w.rowH 131 17 t1
        show rW (d + 3) 101 (25, (0, 0), [some (rz_r (some 109)), some (rz_i (nI k)), some (rz_i (nI m)), some (rz_i (nI s)), some (rz_i (nI a)), some (rz_i (nI j)), some (rz_i (nI t2)), some (rz_i (nI (a + j * m)))], [], rowH h 131 17 t1) = _
        rw [E101_25]
        have eat : hI (rowH h 131 17 t1) 131 (gv F g (nI (a + j * m))) = nI (t1 (gv F g (nI (a + j * m)))) := rowH_at (by omega)
        have eset := rowH_set (h := h) (R := 131) (n := 17) (c := gv F g (nI (a + j * m))) (v := t1 (gv F g (nI (a + j * m))) + 1) (t := t1) (by omega)
        have hq3 := q.kc (Kp.rowH (Kp.refl h) (R := 131) (n := 17) (t := fun i => if i = gv F g (nI (a + j * m)) then t1 (gv F g (nI (a + j * m))) + 1 else t1 i) (by omega)).1
        have w3 := w.rowH 131 17 (fun i => if i = gv F g (nI (a + j * m)) then t1 (gv F g (nI (a + j * m))) + 1 else t1 i)
        have eat3 : hI (rowH h 131 17 (fun i => if i = gv F g (nI (a + j * m)) then t1 (gv F g (nI (a + j * m))) + 1 else t1 i)) 131 (gv F g (nI (a + j * m))) = nI (t1 (gv F g (nI (a + j * m))) + 1) := by
          rw [rowH_at (by omega), if_pos rfl]
        simp (disch := omega) only [bI_some, bV_some, bR_some, bL_some, ob_some, cd_t, cd_f, cd_d, okO_setI, okA_setI, okL_setI, aLen_setI, hR_setI, hI_setI, Bool.true_and, Bool.and_true, Bool.and_self, Option.isNone_some, Option.isSome_some, Option.isNone_none, Option.isSome_none, okO_chI, okA_chI, okL_chI, aLen_chI, hR_chI, ↓reduceIte, not_true_eq_false, not_false_eq_true, eq_self, c10, Nat.zero_add, nI_add, litA, litB, litM, nI_mul, nI_leI, nI_ltI, nI_eq, litLe, litLe2, litLt, litLt2, litEq, litEq2, in_nI, lit_in, nI_clamp, lit_cl, if_pos, if_neg, WMd w2, Q41 w2 hq, Q42 w2 hq, Gp_gv, eat, eset, WMd w3, Q42 w3 hq3, eat3, S35, mx_nI]
        rw [show a + (j + 1) * m = a + j * m + m by rw [Nat.add_mul]; omega]
        rfl
      · show max t2 (t1 (gv F g (nI (a + j * m))) + 1) ≤ j + 1
        omega
      · show (if c = gv F g (nI (a + j * m)) then t1 (gv F g (nI (a + j * m))) + 1 else t1 c) ≤ j + 1
        have : t1 c ≤ j := ht2 c
        split <;> omega) (nst F a m) 0 ((fun _ => 0), 0) () (by omega) ⟨Nat.le_refl _, fun _ => Nat.le_refl _⟩
  refine ⟨(some (rz_i (nI (nst F a m))), some (rz_i (nI (tls (fun j => gv F g (nI (a + j * m))) (nst F a m)).2)), some (rz_i (nI (a + nst F a m * m)))), Eq.trans e1 ?_⟩
  rw [E101_9]
  simp (disch := omega) only [bI_some, bV_some, bR_some, bL_some, ob_some, cd_t, cd_f, cd_d, okO_setI, okA_setI, okL_setI, aLen_setI, hR_setI, hI_setI, Bool.true_and, Bool.and_true, Bool.and_self, Option.isNone_some, Option.isSome_some, Option.isNone_none, Option.isSome_none, okO_chI, okA_chI, okL_chI, aLen_chI, hR_chI, ↓reduceIte, not_true_eq_false, not_false_eq_true, eq_self, c10, Nat.zero_add, nI_add, litA, litB, litM, nI_mul, nI_leI, nI_ltI, nI_eq, litLe, litLe2, litLt, litLt2, litEq, litEq2, in_nI, lit_in, nI_clamp, lit_cl, if_pos, if_neg]
  simp only [Nat.zero_mul, Nat.add_zero] at e2
  refine Eq.trans e2 ?_
  rw [show itr (tal fun j => gv F g (nI (a + j * m))) 0 (nst F a m) (fun _ => 0, 0) = tls (fun j => gv F g (nI (a + j * m))) (nst F a m) from rfl] at *
  have w3 := w.rowH 131 17 (tls (fun j => gv F g (nI (a + j * m))) (nst F a m)).1
  have hq := q.kc (Kp.rowH (Kp.refl h) (R := 131) (n := 17) (t := (tls (fun j => gv F g (nI (a + j * m))) (nst F a m)).1) (by omega)).1
  have hge := nst_ge (F := F) (a := a) hm (by omega)
  have hub : a + nst F a m * m < 1000 := by
    have : nst F a m * m ≤ 16 * 16 := Nat.mul_le_mul hn (by omega)
    omega
  have i1 : (tls (fun j => gv F g (nI (a + j * m))) (nst F a m)).2 ≤ nst F a m := i1
  rw [E101_25]
  simp (disch := omega) only [bI_some, bV_some, bR_some, bL_some, ob_some, cd_t, cd_f, cd_d, okO_setI, okA_setI, okL_setI, aLen_setI, hR_setI, hI_setI, Bool.true_and, Bool.and_true, Bool.and_self, Option.isNone_some, Option.isSome_some, Option.isNone_none, Option.isSome_none, okO_chI, okA_chI, okL_chI, aLen_chI, hR_chI, ↓reduceIte, not_true_eq_false, not_false_eq_true, eq_self, c10, Nat.zero_add, nI_add, litA, litB, litM, nI_mul, nI_leI, nI_ltI, nI_eq, litLe, litLe2, litLt, litLt2, litEq, litEq2, in_nI, lit_in, nI_clamp, lit_cl, if_pos, if_neg, WMd w3, Q41 w3 hq, nI_sub]
  rw [Nat.add_sub_assoc i1]
theorem Q101 {rb dr : Nat} {jd : Option Nat} {h : rz_H} (w : Wf rb dr jd h) {k F : Nat} {g : Nat → Nat} (q : Dq h k F g) (d m : Nat) (hm : 0 < m) (hmF : m ≤ F) : ∃ k', cW (d + 4) 101 [rz_r (some 109), rz_i (nI k), rz_i (nI m)] h = some (rz_i (nI (pnt F g m)), k') ∧ Wf rb dr jd k' ∧ Kp h k' := by
  have hF := q.2.2.1
  have key : ∀ (c a s : Nat) (j : Option rz_V × Option rz_V × Option rz_V) (h2 : rz_H), a + c = m → Wf rb dr jd h2 → Kp h h2 → ∃ k', rW (d + 3) 101 (4, (0, 0), [some (rz_r (some 109)), some (rz_i (nI k)), some (rz_i (nI m)), some (rz_i (nI s)), some (rz_i (nI a)), j.1, j.2.1, j.2.2], [], h2) = some (rz_i (nI (itr (fun a s => s + (nst F a m - (tls (fun j => gv F g (nI (a + j * m))) (nst F a m)).2)) a c s)), k') ∧ Wf rb dr jd k' ∧ Kp h k' := by
    intro c
    induction c with
    | zero =>
      intro a s j h2 hc w2 e2
      refine ⟨h2, ?_, w2, e2⟩
      rw [E101_4]
      simp (disch := omega) only [bI_some, bV_some, bR_some, bL_some, ob_some, cd_t, cd_f, cd_d, okO_setI, okA_setI, okL_setI, aLen_setI, hR_setI, hI_setI, Bool.true_and, Bool.and_true, Bool.and_self, Option.isNone_some, Option.isSome_some, Option.isNone_none, Option.isSome_none, okO_chI, okA_chI, okL_chI, aLen_chI, hR_chI, ↓reduceIte, not_true_eq_false, not_false_eq_true, eq_self, c10, Nat.zero_add, nI_add, litA, litB, litM, nI_mul, nI_leI, nI_ltI, nI_eq, litLe, litLe2, litLt, litLt2, litEq, litEq2, in_nI, lit_in, nI_clamp, lit_cl, if_pos, if_neg]
      rfl
    | succ c ih =>
      intro a s j h2 hc w2 e2
      have q2 := q.kc e2.1
      obtain ⟨j2, e3⟩ := Q101i w2 q2 d a m hm hmF (by omega) s
      obtain ⟨k', e4, w4, e5⟩ := ih (a + 1) (s + (nst F a m - (tls (fun j => gv F g (nI (a + j * m))) (nst F a m)).2)) j2 (rowH h2 131 17 (tls (fun j => gv F g (nI (a + j * m))) (nst F a m)).1) (by omega) w2 (e2.rowH (by omega))
      refine ⟨k', ?_, w4, e5⟩
      rw [E101_4]
      simp (disch := omega) only [bI_some, bV_some, bR_some, bL_some, ob_some, cd_t, cd_f, cd_d, okO_setI, okA_setI, okL_setI, aLen_setI, hR_setI, hI_setI, Bool.true_and, Bool.and_true, Bool.and_self, Option.isNone_some, Option.isSome_some, Option.isNone_none, Option.isSome_none, okO_chI, okA_chI, okL_chI, aLen_chI, hR_chI, ↓reduceIte, not_true_eq_false, not_false_eq_true, eq_self, c10, Nat.zero_add, nI_add, litA, litB, litM, nI_mul, nI_leI, nI_ltI, nI_eq, litLe, litLe2, litLt, litLt2, litEq, litEq2, in_nI, lit_in, nI_clamp, lit_cl, if_pos, if_neg]
      rw [e3]
      exact e4
  rw [E101]
  exact key m 0 0 (none, none, none) h (by omega) w (Kp.refl h)
theorem nI_mod {a b : Nat} (ha : a < 2 ^ 31) (hb : 0 < b) (hb2 : b < 2 ^ 31) : nI a % nI b = nI (a % b) := by
  apply Int32.toInt_inj.mp
  have := Nat.mod_le a b
  rw [Int32.toInt_mod, nI_toInt ha, nI_toInt hb2, nI_toInt (by omega), Int.tmod_eq_emod_of_nonneg (by omega), Int.natCast_emod]
theorem P14 (x y : Int32) : Pr Rel 14 107 [rz_i x, rz_i y] := by
  intro h r
  obtain ⟨rb, dr, jd, w, r1, r2, r3, r4, r5⟩ := id r
  rcases tld r1 r2 x with ⟨k, F, g, rfl, q⟩ | n
  · have hF := q.2.2.1
    have hF0 := q.2.1
    by_cases hy : 1 ≤ y ∧ y ≤ 16
    · obtain ⟨m, hm, rfl⟩ := nI_of2 (x := y) (M := 16) (n := 16) rfl (Int32.not_lt.mpr (Int32.le_trans (by decide) hy.1)) hy.2
      have h1 := Int32.not_lt.mpr hy.1
      have h2 := hy.2
      have hm0 : 0 < m := by
        rcases Nat.eq_zero_or_pos m with e | e
        · rw [e] at h1; exact absurd (by decide) h1
        · exact e
      have n0 : ¬ nI m = 0 := nI_ne0 hm0 (by omega)
      have em := nI_mod (a := F) (b := m) (by omega) hm0 (by omega)
      have hml := Nat.mod_lt F hm0
      by_cases hd : F % m = 0
      · have hmF : m ≤ F := Nat.le_of_dvd hF0 (Nat.dvd_of_mod_eq_zero hd)
        obtain ⟨k1, c1, w1, e1⟩ := Q239 w q 95 m hm0 hmF
        obtain ⟨k2, c2, w2, e2⟩ := Q101 w1 (q.kc e1.1) 95 m hm0 hmF
        refine ⟨nI (pnt F g m), k1, k2, ?_, ?_, (WMd w1).1, R5.kp ⟨r1, r2, r3, r4, r5⟩ w2 (e1.trans e2)⟩
        · rw [show DD = 99 + 1 from rfl, E14]
          simp (disch := omega) only [bI_some, bV_some, bR_some, bL_some, ob_some, cd_t, cd_f, cd_d, okO_setI, okA_setI, okL_setI, aLen_setI, hR_setI, hI_setI, Bool.true_and, Bool.and_true, Bool.and_self, Option.isNone_some, Option.isSome_some, Option.isNone_none, Option.isSome_none, okO_chI, okA_chI, okL_chI, aLen_chI, hR_chI, ↓reduceIte, not_true_eq_false, not_false_eq_true, eq_self, c10, WRt w, Q181 w q, if_neg h1, if_pos h2, WD w (isD_3 q.1), Q136 w q, if_pos n0, irem_eq_mod, em, hd, nI_0, c1]
        · rw [show DD = 99 + 1 from rfl, E107]
          simp (disch := omega) only [bI_some, bV_some, bR_some, bL_some, ob_some, cd_t, cd_f, cd_d, okO_setI, okA_setI, okL_setI, aLen_setI, hR_setI, hI_setI, Bool.true_and, Bool.and_true, Bool.and_self, Option.isNone_some, Option.isSome_some, Option.isNone_none, Option.isSome_none, okO_chI, okA_chI, okL_chI, aLen_chI, hR_chI, ↓reduceIte, not_true_eq_false, not_false_eq_true, eq_self, c10, WMd w1, Q39 w1 (q.kc e1.1), S33, if_pos hy, Q41 w1 (q.kc e1.1), if_pos n0, irem_eq_mod, em, hd, nI_0, c2]
      · have nz : ¬ nI (F % m) = 0 := nI_ne0 (by omega) (by omega)
        refine ⟨-2, h, h, ?_, ?_, (WMd w).1, r⟩
        · rw [show DD = 99 + 1 from rfl, E14]
          simp (disch := omega) only [bI_some, bV_some, bR_some, bL_some, ob_some, cd_t, cd_f, cd_d, okO_setI, okA_setI, okL_setI, aLen_setI, hR_setI, hI_setI, Bool.true_and, Bool.and_true, Bool.and_self, Option.isNone_some, Option.isSome_some, Option.isNone_none, Option.isSome_none, okO_chI, okA_chI, okL_chI, aLen_chI, hR_chI, ↓reduceIte, not_true_eq_false, not_false_eq_true, eq_self, c10, WRt w, Q181 w q, if_neg h1, if_pos h2, WD w (isD_3 q.1), Q136 w q, if_pos n0, irem_eq_mod, em, if_neg nz]
        · rw [show DD = 99 + 1 from rfl, E107]
          simp (disch := omega) only [bI_some, bV_some, bR_some, bL_some, ob_some, cd_t, cd_f, cd_d, okO_setI, okA_setI, okL_setI, aLen_setI, hR_setI, hI_setI, Bool.true_and, Bool.and_true, Bool.and_self, Option.isNone_some, Option.isSome_some, Option.isNone_none, Option.isSome_none, okO_chI, okA_chI, okL_chI, aLen_chI, hR_chI, ↓reduceIte, not_true_eq_false, not_false_eq_true, eq_self, c10, WMd w, Q39 w q, S33, if_pos hy, Q41 w q, if_pos n0, irem_eq_mod, em, if_neg nz]
    · refine ⟨-1, h, h, ?_, ?_, (WMd w).1, r⟩
      · rw [show DD = 99 + 1 from rfl, E14]
        by_cases h1 : y < 1
        · simp only [bI_some, bV_some, bR_some, bL_some, ob_some, cd_t, cd_f, cd_d, okO_setI, okA_setI, okL_setI, aLen_setI, hR_setI, hI_setI, Bool.true_and, Bool.and_true, Bool.and_self, Option.isNone_some, Option.isSome_some, Option.isNone_none, Option.isSome_none, okO_chI, okA_chI, okL_chI, aLen_chI, hR_chI, ↓reduceIte, not_true_eq_false, not_false_eq_true, eq_self, c10, WRt w, Q181 w q, if_pos h1]
        · have h2 : ¬ y ≤ 16 := fun e => hy ⟨Int32.not_lt.mp h1, e⟩
          simp only [bI_some, bV_some, bR_some, bL_some, ob_some, cd_t, cd_f, cd_d, okO_setI, okA_setI, okL_setI, aLen_setI, hR_setI, hI_setI, Bool.true_and, Bool.and_true, Bool.and_self, Option.isNone_some, Option.isSome_some, Option.isNone_none, Option.isSome_none, okO_chI, okA_chI, okL_chI, aLen_chI, hR_chI, ↓reduceIte, not_true_eq_false, not_false_eq_true, eq_self, c10, WRt w, Q181 w q, if_neg h1, if_neg h2]
      · rw [show DD = 99 + 1 from rfl, E107]
        simp only [bI_some, bV_some, bR_some, bL_some, ob_some, cd_t, cd_f, cd_d, okO_setI, okA_setI, okL_setI, aLen_setI, hR_setI, hI_setI, Bool.true_and, Bool.and_true, Bool.and_self, Option.isNone_some, Option.isSome_some, Option.isNone_none, Option.isSome_none, okO_chI, okA_chI, okL_chI, aLen_chI, hR_chI, ↓reduceIte, not_true_eq_false, not_false_eq_true, eq_self, c10, WMd w, Q39 w q, S33, if_neg hy]
  · refine ⟨-1, h, h, ?_, ?_, (WMd w).1, r⟩
    · rw [show DD = 99 + 1 from rfl, E14]
      simp only [bI_some, bV_some, bR_some, bL_some, ob_some, cd_t, cd_f, cd_d, okO_setI, okA_setI, okL_setI, aLen_setI, hR_setI, hI_setI, Bool.true_and, Bool.and_true, Bool.and_self, Option.isNone_some, Option.isSome_some, Option.isNone_none, Option.isSome_none, okO_chI, okA_chI, okL_chI, aLen_chI, hR_chI, ↓reduceIte, not_true_eq_false, not_false_eq_true, eq_self, c10, WRt w, N181 w n]
    · rw [show DD = 99 + 1 from rfl, E107]
      simp only [bI_some, bV_some, bR_some, bL_some, ob_some, cd_t, cd_f, cd_d, okO_setI, okA_setI, okL_setI, aLen_setI, hR_setI, hI_setI, Bool.true_and, Bool.and_true, Bool.and_self, Option.isNone_some, Option.isSome_some, Option.isNone_none, Option.isSome_none, okO_chI, okA_chI, okL_chI, aLen_chI, hR_chI, ↓reduceIte, not_true_eq_false, not_false_eq_true, eq_self, c10, WMd w, N39 w n]
