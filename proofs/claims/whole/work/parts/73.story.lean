/-! story: the least beginning -/
def les (F : Nat) (g : Nat → Nat) (a b : Nat) : Bool := decide (lke (Gp F g) (Gp F g) a b F < F) && decide (¬ Gp F g (nI (b + lke (Gp F g) (Gp F g) a b F)) ≤ Gp F g (nI (a + lke (Gp F g) (Gp F g) a b F)))
def lst (F : Nat) (g : Nat → Nat) : Nat := itr (fun i b => if les F g i b = true then i else b) 1 (F - 1) 0
theorem lp_jm {σ τ ρ : Type} (P : Nat → σ → τ → ρ) (R : σ → ρ) (f : Nat → σ → σ) (m n : Nat) (hs : ∀ i s j, m ≤ i → i < n → ∃ j2, P i s j = P (i + 1) (f i s) j2) (hx : ∀ s j, P n s j = R s) : ∀ (c i : Nat) (s : σ) (j : τ), m ≤ i → i + c = n → P i s j = R (itr f i c s)
  | 0, i, s, j, _, e => by
    have : i = n := by omega
    subst this
    exact hx s j
  | c + 1, i, s, j, hm, e => by
    obtain ⟨j2, e2⟩ := hs i s j hm (by omega)
    rw [e2]
    exact lp_jm P R f m n hs hx c (i + 1) (f i s) j2 (by omega) (by omega)
theorem Q255 {rb dr : Nat} {jd : Option Nat} {h : rz_H} (w : Wf rb dr jd h) {k F : Nat} {g : Nat → Nat} (q : Dq h k F g) (d : Nat) : cW (d + 4) 255 [rz_r (some (5 + 3 * k))] h = some (rz_i (nI (lst F g)), h) := by
  have hF := q.2.2.1
  have hF0 := q.2.1
  rw [E255]
  simp only [bI_some, bV_some, bR_some, bL_some, ob_some, cd_t, cd_f, cd_d, okO_setI, okA_setI, okL_setI, aLen_setI, hR_setI, hI_setI, Bool.true_and, Bool.and_true, Bool.and_self, Option.isNone_some, Option.isSome_some, Option.isNone_none, Option.isSome_none, okO_chI, okA_chI, okL_chI, aLen_chI, hR_chI, ↓reduceIte, not_true_eq_false, not_false_eq_true, eq_self, c10, WD w (isD_3 q.1), Q136 w q]
  refine lp_jm (fun i b j => rW (d + 3) 255 (7, (0, 0), [some (rz_r (some (5 + 3 * k))), some (rz_i (nI F)), some (rz_i (nI b)), some (rz_i (nI i)), j], [], h)) (fun b => some (rz_i (nI b), h)) (fun i b => if les F g i b = true then i else b) 1 F (fun i b j h1 h2 => ⟨some (rz_i (nI (lke (Gp F g) (Gp F g) i b F))), ?_⟩) (fun b j => ?_) (F - 1) 1 0 none (by omega) (by omega)
  · have hl := lke_le (Gp F g) (Gp F g) i b F
    rw [E255_7]
    unfold les
    by_cases h3 : lke (Gp F g) (Gp F g) i b F < F
    · by_cases h4 : Gp F g (nI (b + lke (Gp F g) (Gp F g) i b F)) ≤ Gp F g (nI (i + lke (Gp F g) (Gp F g) i b F)) <;> simp (disch := omega) only [bI_some, bV_some, bR_some, bL_some, ob_some, cd_t, cd_f, cd_d, okO_setI, okA_setI, okL_setI, aLen_setI, hR_setI, hI_setI, Bool.true_and, Bool.and_true, Bool.and_self, Option.isNone_some, Option.isSome_some, Option.isNone_none, Option.isSome_none, okO_chI, okA_chI, okL_chI, aLen_chI, hR_chI, ↓reduceIte, not_true_eq_false, not_false_eq_true, eq_self, c10, Nat.zero_add, nI_add, litA, litB, litM, nI_mul, nI_leI, nI_ltI, nI_eq, litLe, litLe2, litLt, litLt2, litEq, litEq2, in_nI, lit_in, nI_clamp, lit_cl, if_pos, if_neg, WD w (isD_3 q.1), Q254 w q q, Q144 w q, h3, h4, decide_true, decide_false, Bool.true_and, Bool.false_eq_true]
    · simp (disch := omega) only [bI_some, bV_some, bR_some, bL_some, ob_some, cd_t, cd_f, cd_d, okO_setI, okA_setI, okL_setI, aLen_setI, hR_setI, hI_setI, Bool.true_and, Bool.and_true, Bool.and_self, Option.isNone_some, Option.isSome_some, Option.isNone_none, Option.isSome_none, okO_chI, okA_chI, okL_chI, aLen_chI, hR_chI, ↓reduceIte, not_true_eq_false, not_false_eq_true, eq_self, c10, Nat.zero_add, nI_add, litA, litB, litM, nI_mul, nI_leI, nI_ltI, nI_eq, litLe, litLe2, litLt, litLt2, litEq, litEq2, in_nI, lit_in, nI_clamp, lit_cl, if_pos, if_neg, WD w (isD_3 q.1), Q254 w q q, h3, decide_false, Bool.false_and, Bool.false_eq_true]
  · rw [E255_7]
    simp (disch := omega) only [bI_some, bV_some, bR_some, bL_some, ob_some, cd_t, cd_f, cd_d, okO_setI, okA_setI, okL_setI, aLen_setI, hR_setI, hI_setI, Bool.true_and, Bool.and_true, Bool.and_self, Option.isNone_some, Option.isSome_some, Option.isNone_none, Option.isSome_none, okO_chI, okA_chI, okL_chI, aLen_chI, hR_chI, ↓reduceIte, not_true_eq_false, not_false_eq_true, eq_self, c10, Nat.zero_add, nI_add, litA, litB, litM, nI_mul, nI_leI, nI_ltI, nI_eq, litLe, litLe2, litLt, litLt2, litEq, litEq2, in_nI, lit_in, nI_clamp, lit_cl, if_pos, if_neg]
theorem Q98 {rb dr : Nat} {jd : Option Nat} {h : rz_H} (w : Wf rb dr jd h) {k F : Nat} {g : Nat → Nat} (q : Dq h k F g) (d a b : Nat) : cW (d + 3) 98 [rz_r (some 109), rz_i (nI k), rz_i (nI a), rz_i (nI b)] h = some (rz_i (bI1 (les F g a b)), h) := by
  have hF := q.2.2.1
  rw [E98]
  have key := lp_jf (τ := Unit) (fun t _ => rW (d + 2) 98 (2, (0, 0), [some (rz_r (some 109)), some (rz_i (nI k)), some (rz_i (nI a)), some (rz_i (nI b)), some (rz_i (nI t))], [], h)) (fun t => some (rz_i (bI1 (decide (¬ Gp F g (nI (b + t)) ≤ Gp F g (nI (a + t))))), h)) (some (rz_i 0, h)) (fun t => !decide (Gp F g (nI (a + t)) = Gp F g (nI (b + t)))) F (fun t _ ht => ⟨fun hp => ?_, fun hp => ⟨(), ?_⟩⟩) (fun _ => ?_) F 0 () (by omega)
  · refine Eq.trans key ?_
    unfold les lke
    rcases hf : fst (fun t => !decide (Gp F g (nI (a + t)) = Gp F g (nI (b + t)))) 0 F with _ | m
    · simp [oel, bI1]
    · have := (fst_some F 0 m hf).2.1
      have : m < F := by omega
      simp [oel, this]
  · have hp : ¬ Gp F g (nI (a + t)) = Gp F g (nI (b + t)) := by simpa using hp
    rw [E98_2]
    by_cases h4 : Gp F g (nI (b + t)) ≤ Gp F g (nI (a + t)) <;> simp (disch := omega) only [bI_some, bV_some, bR_some, bL_some, ob_some, cd_t, cd_f, cd_d, okO_setI, okA_setI, okL_setI, aLen_setI, hR_setI, hI_setI, Bool.true_and, Bool.and_true, Bool.and_self, Option.isNone_some, Option.isSome_some, Option.isNone_none, Option.isSome_none, okO_chI, okA_chI, okL_chI, aLen_chI, hR_chI, ↓reduceIte, not_true_eq_false, not_false_eq_true, eq_self, c10, Nat.zero_add, nI_add, litA, litB, litM, nI_mul, nI_leI, nI_ltI, nI_eq, litLe, litLe2, litLt, litLt2, litEq, litEq2, in_nI, lit_in, nI_clamp, lit_cl, if_pos, if_neg, WMd w, Q41 w q, Q42 w q, hp, h4, bI1, decide_true, decide_false, Bool.false_eq_true]
  · have hp : Gp F g (nI (a + t)) = Gp F g (nI (b + t)) := by simpa using hp
    rw [E98_2]
    simp (disch := omega) only [bI_some, bV_some, bR_some, bL_some, ob_some, cd_t, cd_f, cd_d, okO_setI, okA_setI, okL_setI, aLen_setI, hR_setI, hI_setI, Bool.true_and, Bool.and_true, Bool.and_self, Option.isNone_some, Option.isSome_some, Option.isNone_none, Option.isSome_none, okO_chI, okA_chI, okL_chI, aLen_chI, hR_chI, ↓reduceIte, not_true_eq_false, not_false_eq_true, eq_self, c10, Nat.zero_add, nI_add, litA, litB, litM, nI_mul, nI_leI, nI_ltI, nI_eq, litLe, litLe2, litLt, litLt2, litEq, litEq2, in_nI, lit_in, nI_clamp, lit_cl, if_pos, if_neg, WMd w, Q41 w q, Q42 w q, hp]
  · rw [E98_2]
    simp (disch := omega) only [bI_some, bV_some, bR_some, bL_some, ob_some, cd_t, cd_f, cd_d, okO_setI, okA_setI, okL_setI, aLen_setI, hR_setI, hI_setI, Bool.true_and, Bool.and_true, Bool.and_self, Option.isNone_some, Option.isSome_some, Option.isNone_none, Option.isSome_none, okO_chI, okA_chI, okL_chI, aLen_chI, hR_chI, ↓reduceIte, not_true_eq_false, not_false_eq_true, eq_self, c10, Nat.zero_add, nI_add, litA, litB, litM, nI_mul, nI_leI, nI_ltI, nI_eq, litLe, litLe2, litLt, litLt2, litEq, litEq2, in_nI, lit_in, nI_clamp, lit_cl, if_pos, if_neg, WMd w, Q41 w q]
theorem Q99 {rb dr : Nat} {jd : Option Nat} {h : rz_H} (w : Wf rb dr jd h) {k F : Nat} {g : Nat → Nat} (q : Dq h k F g) (d : Nat) : cW (d + 4) 99 [rz_r (some 109), rz_i (nI k)] h = some (rz_i (nI (lst F g)), h) := by
  have hF := q.2.2.1
  have hF0 := q.2.1
  rw [E99]
  refine lp_jm (τ := Unit) (fun i b _ => rW (d + 3) 99 (4, (0, 0), [some (rz_r (some 109)), some (rz_i (nI k)), some (rz_i (nI b)), some (rz_i (nI i))], [], h)) (fun b => some (rz_i (nI b), h)) (fun i b => if les F g i b = true then i else b) 1 F (fun i b j h1 h2 => ⟨(), ?_⟩) (fun b j => ?_) (F - 1) 1 0 () (by omega) (by omega)
  · rw [E99_4]
    by_cases h3 : les F g i b = true <;> simp (disch := omega) only [bI_some, bV_some, bR_some, bL_some, ob_some, cd_t, cd_f, cd_d, okO_setI, okA_setI, okL_setI, aLen_setI, hR_setI, hI_setI, Bool.true_and, Bool.and_true, Bool.and_self, Option.isNone_some, Option.isSome_some, Option.isNone_none, Option.isSome_none, okO_chI, okA_chI, okL_chI, aLen_chI, hR_chI, ↓reduceIte, not_true_eq_false, not_false_eq_true, eq_self, c10, Nat.zero_add, nI_add, litA, litB, litM, nI_mul, nI_leI, nI_ltI, nI_eq, litLe, litLe2, litLt, litLt2, litEq, litEq2, in_nI, lit_in, nI_clamp, lit_cl, if_pos, if_neg, WMd w, Q41 w q, Q98 w q, h3, bI1, Bool.false_eq_true]
  · rw [E99_4]
    simp (disch := omega) only [bI_some, bV_some, bR_some, bL_some, ob_some, cd_t, cd_f, cd_d, okO_setI, okA_setI, okL_setI, aLen_setI, hR_setI, hI_setI, Bool.true_and, Bool.and_true, Bool.and_self, Option.isNone_some, Option.isSome_some, Option.isNone_none, Option.isSome_none, okO_chI, okA_chI, okL_chI, aLen_chI, hR_chI, ↓reduceIte, not_true_eq_false, not_false_eq_true, eq_self, c10, Nat.zero_add, nI_add, litA, litB, litM, nI_mul, nI_leI, nI_ltI, nI_eq, litLe, litLe2, litLt, litLt2, litEq, litEq2, in_nI, lit_in, nI_clamp, lit_cl, if_pos, if_neg, WMd w, Q41 w q]
/-! what repeats -/
def Cl (F : Nat) (g : Nat → Nat) (t : Nat) : Prop := ∀ i, g ((t + i) % F) = g (i % F)
theorem Cl.add {F : Nat} {g : Nat → Nat} {a b : Nat} (ha : Cl F g a) (hb : Cl F g b) : Cl F g (a + b) := fun i => by
  rw [Nat.add_assoc, ha (b + i), hb i]
theorem Cl.mul {F : Nat} {g : Nat → Nat} {a : Nat} (ha : Cl F g a) : ∀ n, Cl F g (n * a)
  | 0 => fun i => by rw [Nat.zero_mul, Nat.zero_add]
  | n + 1 => by rw [Nat.add_mul, Nat.one_mul]; exact (ha.mul n).add ha
theorem Cl.mod {F : Nat} {g : Nat → Nat} {a : Nat} (ha : Cl F g a) : Cl F g (F % a) := fun i => by
  have h1 := ha.mul (F / a) (F % a + i)
  rw [← Nat.add_assoc, Nat.mul_comm, Nat.div_add_mod] at h1
  rw [← h1, Nat.add_mod_left]
theorem gp_eq {F : Nat} {g : Nat → Nat} {h : rz_H} {k : Nat} (q : Dq h k F g) {i j : Nat} (hi : i < 2 ^ 31) (hj : j < 2 ^ 31) : Gp F g (nI i) = Gp F g (nI j) ↔ g (i % F) = g (j % F) := by
  have h1 := q.2.2.2.1 (i % F) (Nat.mod_lt _ q.2.1)
  have h2 := q.2.2.2.1 (j % F) (Nat.mod_lt _ q.2.1)
  rw [Gp_nI hi, Gp_nI hj]
  exact nI_eq (by omega) (by omega)
theorem gv_nI {F : Nat} {g : Nat → Nat} {i : Nat} (hi : i < 2 ^ 31) : gv F g (nI i) = g (i % F) := by
  unfold gv
  rw [nI_toInt hi, ← Int.natCast_emod, Int.toNat_natCast]
theorem Cl_lke {F : Nat} {g : Nat → Nat} {h : rz_H} {k : Nat} (q : Dq h k F g) {t : Nat} (ht : t ≤ 16) : lke (Gp F g) (Gp F g) t 0 F = F ↔ Cl F g t := by
  have hF := q.2.2.1
  rw [lke_all]
  constructor
  · intro e i
    have hm := Nat.mod_lt i q.2.1
    have := (gp_eq q (by omega) (by omega)).mp (e (i % F) hm)
    rw [Nat.zero_add, Nat.mod_mod, Nat.add_mod_mod] at this
    exact this
  · intro e i hi
    exact (gp_eq q (by omega) (by omega)).mpr (by rw [Nat.zero_add]; exact e i)
theorem pnt_0 (F : Nat) (g : Nat → Nat) (m : Nat) : pnt F g m = 0 ↔ ∀ a, a < m → (tls (fun j => gv F g (nI (a + j * m))) (nst F a m)).2 = nst F a m := by
  have key : ∀ n, itr (fun a s => s + (nst F a m - (tls (fun j => gv F g (nI (a + j * m))) (nst F a m)).2)) 0 n 0 = 0 ↔ ∀ a, a < n → (tls (fun j => gv F g (nI (a + j * m))) (nst F a m)).2 = nst F a m := by
    intro n
    induction n with
    | zero => exact ⟨fun _ a ha => absurd ha (by omega), fun _ => rfl⟩
    | succ n ih =>
      rw [itr_succ, Nat.zero_add]
      have hl := (tls_ok (fun j => gv F g (nI (n + j * m))) (nst F n m)).2.1
      constructor
      · intro e a ha
        by_cases h : a = n
        · subst h; omega
        · exact ih.mp (by omega) a (by omega)
      · intro e
        have e1 := ih.mpr (fun a ha => e a (by omega))
        have e2 := e n (by omega)
        omega
  exact key m
theorem pnt_Cl {F : Nat} {g : Nat → Nat} {h : rz_H} {k : Nat} (q : Dq h k F g) {m : Nat} (hm : 0 < m) (hd : F % m = 0) : pnt F g m = 0 ↔ Cl F g m := by
  have hF := q.2.2.1
  have hF0 := q.2.1
  have hmF : m ≤ F := Nat.le_of_dvd hF0 (Nat.dvd_of_mod_eq_zero hd)
  rw [pnt_0]
  constructor
  · intro e i
    have same : ∀ x, x < F → g x = g (x % m) := fun x hx => by
      have ha := Nat.mod_lt x hm
      have h1 := (tls_ok (fun j => gv F g (nI (x % m + j * m))) (nst F (x % m) m)).2.2.mp (e (x % m) ha)
      have ex : x % m + x / m * m = x := by rw [Nat.mul_comm]; exact Nat.mod_add_div x m
      have h2 := h1 (x / m) (nst_in hm (by omega))
      have hb : x % m < F := by omega
      rw [ex, Nat.zero_mul, Nat.add_zero, gv_nI (by omega), gv_nI (by omega), Nat.mod_eq_of_lt hx, Nat.mod_eq_of_lt hb] at h2
      exact h2
    have hdv := Nat.dvd_of_mod_eq_zero hd
    rw [same _ (Nat.mod_lt _ hF0), same (i % F) (Nat.mod_lt _ hF0), Nat.mod_mod_of_dvd _ hdv, Nat.mod_mod_of_dvd _ hdv, Nat.add_mod_left]
  · intro e a ha
    refine (tls_ok (fun j => gv F g (nI (a + j * m))) (nst F a m)).2.2.mpr (fun j hj => ?_)
    have hlt := nst_lt hm hj
    have := e.mul j a
    rw [gv_nI (by omega), gv_nI (by omega), Nat.zero_mul, Nat.add_zero, Nat.add_comm a]
    exact this
theorem Q256 {rb dr : Nat} {jd : Option Nat} {h : rz_H} (w : Wf rb dr jd h) {k F : Nat} {g : Nat → Nat} (q : Dq h k F g) (d : Nat) : ∃ T, 0 < T ∧ T ≤ F ∧ Cl F g T ∧ (∀ t, 0 < t → t < T → ¬ Cl F g t) ∧ cW (d + 4) 256 [rz_r (some (5 + 3 * k))] h = some (rz_i (nI T), h) := by
  have hF := q.2.2.1
  have hF0 := q.2.1
  have key := lp_jf (τ := Unit) (fun t _ => rW (d + 3) 256 (5, (0, 0), [some (rz_r (some (5 + 3 * k))), some (rz_i (nI F)), some (rz_i (nI (t + 1)))], [], h)) (fun t => some (rz_i (nI (t + 1)), h)) (some (rz_i (nI F), h)) (fun t => decide (lke (Gp F g) (Gp F g) (t + 1) 0 F = F)) (F - 1) (fun t _ ht => ⟨fun hp => ?_, fun hp => ⟨(), ?_⟩⟩) (fun _ => ?_) (F - 1) 0 () (by omega)
  · have e1 : cW (d + 4) 256 [rz_r (some (5 + 3 * k))] h = rW (d + 3) 256 (5, (0, 0), [some (rz_r (some (5 + 3 * k))), some (rz_i (nI F)), some (rz_i (nI (0 + 1)))], [], h) := by
      rw [E256]
      simp only [bI_some, bV_some, bR_some, bL_some, ob_some, cd_t, cd_f, cd_d, okO_setI, okA_setI, okL_setI, aLen_setI, hR_setI, hI_setI, Bool.true_and, Bool.and_true, Bool.and_self, Option.isNone_some, Option.isSome_some, Option.isNone_none, Option.isSome_none, okO_chI, okA_chI, okL_chI, aLen_chI, hR_chI, ↓reduceIte, not_true_eq_false, not_false_eq_true, eq_self, c10, WD w (isD_3 q.1), Q136 w q]
      rfl
    rw [e1, key]
    rcases hf : fst (fun t => decide (lke (Gp F g) (Gp F g) (t + 1) 0 F = F)) 0 (F - 1) with _ | m
    · refine ⟨F, hF0, Nat.le_refl _, fun i => by rw [Nat.add_mod_left], fun t h1 h2 hc => ?_, rfl⟩
      have := of_decide_eq_false (fst_none (F - 1) 0 hf (t - 1) (by omega) (by omega))
      rw [show t - 1 + 1 = t by omega] at this
      exact this ((Cl_lke q (by omega)).mpr hc)
    · obtain ⟨h1, h2, h3, h4⟩ := fst_some (F - 1) 0 m hf
      refine ⟨m + 1, by omega, by omega, (Cl_lke q (by omega)).mp (of_decide_eq_true h3), fun t t1 t2 hc => ?_, rfl⟩
      have := of_decide_eq_false (h4 (t - 1) (by omega) (by omega))
      rw [show t - 1 + 1 = t by omega] at this
      exact this ((Cl_lke q (by omega)).mpr hc)
  · have hp := of_decide_eq_true hp
    rw [E256_5, show (0 : Int32) = nI 0 from rfl]
    simp (disch := omega) only [bI_some, bV_some, bR_some, bL_some, ob_some, cd_t, cd_f, cd_d, okO_setI, okA_setI, okL_setI, aLen_setI, hR_setI, hI_setI, Bool.true_and, Bool.and_true, Bool.and_self, Option.isNone_some, Option.isSome_some, Option.isNone_none, Option.isSome_none, okO_chI, okA_chI, okL_chI, aLen_chI, hR_chI, ↓reduceIte, not_true_eq_false, not_false_eq_true, eq_self, c10, Nat.zero_add, nI_add, litA, litB, litM, nI_mul, nI_leI, nI_ltI, nI_eq, litLe, litLe2, litLt, litLt2, litEq, litEq2, in_nI, lit_in, nI_clamp, lit_cl, if_pos, if_neg, Q254 w q q, hp]
  · have hp := of_decide_eq_false hp
    have hl := lke_le (Gp F g) (Gp F g) (t + 1) 0 F
    rw [E256_5, show (0 : Int32) = nI 0 from rfl]
    simp (disch := omega) only [bI_some, bV_some, bR_some, bL_some, ob_some, cd_t, cd_f, cd_d, okO_setI, okA_setI, okL_setI, aLen_setI, hR_setI, hI_setI, Bool.true_and, Bool.and_true, Bool.and_self, Option.isNone_some, Option.isSome_some, Option.isNone_none, Option.isSome_none, okO_chI, okA_chI, okL_chI, aLen_chI, hR_chI, ↓reduceIte, not_true_eq_false, not_false_eq_true, eq_self, c10, Nat.zero_add, nI_add, litA, litB, litM, nI_mul, nI_leI, nI_ltI, nI_eq, litLe, litLe2, litLt, litLt2, litEq, litEq2, in_nI, lit_in, nI_clamp, lit_cl, if_pos, if_neg, Q254 w q q, hp]
  · rw [E256_5]
    simp (disch := omega) only [bI_some, bV_some, bR_some, bL_some, ob_some, cd_t, cd_f, cd_d, okO_setI, okA_setI, okL_setI, aLen_setI, hR_setI, hI_setI, Bool.true_and, Bool.and_true, Bool.and_self, Option.isNone_some, Option.isSome_some, Option.isNone_none, Option.isSome_none, okO_chI, okA_chI, okL_chI, aLen_chI, hR_chI, ↓reduceIte, not_true_eq_false, not_false_eq_true, eq_self, c10, Nat.zero_add, nI_add, litA, litB, litM, nI_mul, nI_leI, nI_ltI, nI_eq, litLe, litLe2, litLt, litLt2, litEq, litEq2, in_nI, lit_in, nI_clamp, lit_cl, if_pos, if_neg, show F - 1 + 1 = F by omega]
theorem pnt_le {F : Nat} {g : Nat → Nat} (m : Nat) (hm : m ≤ 16) (hF : F ≤ 16) (h0 : 0 < m) : pnt F g m ≤ 256 := by
  have key : ∀ n, itr (fun a s => s + (nst F a m - (tls (fun j => gv F g (nI (a + j * m))) (nst F a m)).2)) 0 n 0 ≤ 16 * n := by
    intro n
    induction n with
    | zero => exact Nat.le_refl _
    | succ n ih =>
      rw [itr_succ, Nat.zero_add]
      have : nst F n m ≤ 16 := by
        rcases Nat.eq_zero_or_pos (nst F n m) with e | e
        · omega
        · have h1 := nst_lt h0 (Nat.sub_lt e (by omega) : nst F n m - 1 < nst F n m)
          have h2 : nst F n m - 1 ≤ (nst F n m - 1) * m := Nat.le_mul_of_pos_right _ h0
          omega
      omega
  have := key m
  unfold pnt
  omega
theorem Q100 {rb dr : Nat} {jd : Option Nat} {h : rz_H} (w : Wf rb dr jd h) {k F : Nat} {g : Nat → Nat} (q : Dq h k F g) (d T : Nat) (hT : 0 < T) (hTF : T ≤ F) (c1 : Cl F g T) (c2 : ∀ t, 0 < t → t < T → ¬ Cl F g t) : ∃ k', cW (d + 5) 100 [rz_r (some 109), rz_i (nI k)] h = some (rz_i (nI T), k') ∧ Wf rb dr jd k' ∧ Kp h k' := by
  have hF := q.2.2.1
  have hF0 := q.2.1
  have hd : F % T = 0 := by
    rcases Nat.eq_zero_or_pos (F % T) with e | e
    · exact e
    · exact absurd c1.mod (c2 _ e (Nat.mod_lt _ hT))
  have key : ∀ (c p : Nat) (h2 : rz_H), 0 < p → p + c = T → Wf rb dr jd h2 → Kp h h2 → ∃ k', rW (d + 4) 100 (2, (0, 0), [some (rz_r (some 109)), some (rz_i (nI k)), some (rz_i (nI p))], [], h2) = some (rz_i (nI T), k') ∧ Wf rb dr jd k' ∧ Kp h k' := by
    intro c
    induction c with
    | zero =>
      intro p h2 hp hc w2 e2
      have : p = T := by omega
      subst this
      obtain ⟨k', a1, a2, a3⟩ := Q101 w2 (q.kc e2.1) d p hp hTF
      have z := (pnt_Cl q hp hd).mpr c1
      have em := nI_mod (a := F) (b := p) (by omega) hp (by omega)
      have q3 := (q.kc e2.1).kc a3.1
      refine ⟨k', ?_, a2, e2.trans a3⟩
      have n0 : ¬ nI p = 0 := nI_ne0 hp (by omega)
      rw [E100_2]
      simp (disch := omega) only [bI_some, bV_some, bR_some, bL_some, ob_some, cd_t, cd_f, cd_d, okO_setI, okA_setI, okL_setI, aLen_setI, hR_setI, hI_setI, Bool.true_and, Bool.and_true, Bool.and_self, Option.isNone_some, Option.isSome_some, Option.isNone_none, Option.isSome_none, okO_chI, okA_chI, okL_chI, aLen_chI, hR_chI, ↓reduceIte, not_true_eq_false, not_false_eq_true, eq_self, c10, WMd w2, a1, z, nI_0, WMd a2, Q41 a2 q3, if_pos n0, irem_eq_mod, em, hd]
    | succ c ih =>
      intro p h2 hp hc w2 e2
      obtain ⟨k', a1, a2, a3⟩ := Q101 w2 (q.kc e2.1) d p hp (by omega)
      obtain ⟨k2, b1, b2, b3⟩ := ih (p + 1) k' (by omega) (by omega) a2 (e2.trans a3)
      have em := nI_mod (a := F) (b := p) (by omega) hp (by omega)
      have q3 := (q.kc e2.1).kc a3.1
      have n0 : ¬ nI p = 0 := nI_ne0 hp (by omega)
      have hl := pnt_le (F := F) (g := g) p (by omega) hF hp
      refine ⟨k2, ?_, b2, b3⟩
      rw [E100_2]
      by_cases z : pnt F g p = 0
      · have hml := Nat.mod_lt F hp
        have hm : ¬ F % p = 0 := fun e => c2 p hp (by omega) ((pnt_Cl q hp e).mp z)
        have nm : ¬ nI (F % p) = 0 := nI_ne0 (by omega) (by omega)
        simp (disch := omega) only [bI_some, bV_some, bR_some, bL_some, ob_some, cd_t, cd_f, cd_d, okO_setI, okA_setI, okL_setI, aLen_setI, hR_setI, hI_setI, Bool.true_and, Bool.and_true, Bool.and_self, Option.isNone_some, Option.isSome_some, Option.isNone_none, Option.isSome_none, okO_chI, okA_chI, okL_chI, aLen_chI, hR_chI, ↓reduceIte, not_true_eq_false, not_false_eq_true, eq_self, c10, nI_1, WMd w2, a1, z, nI_0, WMd a2, Q41 a2 q3, if_pos n0, irem_eq_mod, em, if_neg nm]
        exact b1
      · have nz : ¬ nI (pnt F g p) = 0 := nI_ne0 (by omega) (by omega)
        simp (disch := omega) only [bI_some, bV_some, bR_some, bL_some, ob_some, cd_t, cd_f, cd_d, okO_setI, okA_setI, okL_setI, aLen_setI, hR_setI, hI_setI, Bool.true_and, Bool.and_true, Bool.and_self, Option.isNone_some, Option.isSome_some, Option.isNone_none, Option.isSome_none, okO_chI, okA_chI, okL_chI, aLen_chI, hR_chI, ↓reduceIte, not_true_eq_false, not_false_eq_true, eq_self, c10, nI_1, WMd w2, a1, if_pos nz]
        exact b1
  rw [E100]
  exact key (T - 1) 1 h (by omega) (by omega) w (Kp.refl h)
/-! mirror -/
def mir (F : Nat) (g : Nat → Nat) (b : Nat) : Nat := cnt (fun i => !decide (Gp F g (nI b + nI i) = Gp F g (nI b - 1 - nI i))) (F / 2)
theorem nI_half {F : Nat} (hF : F ≤ 16) : nI F / (2 : Int32) = nI (F / 2) := by
  have : ∀ F, F < 17 → nI F / (2 : Int32) = nI (F / 2) := by decide
  exact this F (by omega)
theorem Q257 {rb dr : Nat} {jd : Option Nat} {h : rz_H} (w : Wf rb dr jd h) {k F : Nat} {g : Nat → Nat} (q : Dq h k F g) (d : Nat) : cW (d + 3) 257 [rz_r (some (5 + 3 * k))] h = some (rz_i (itr (fun b m => mn m (nI (mir F g b))) 0 F (nI F)), h) := by
  have hF := q.2.2.1
  rw [E257]
  simp only [bI_some, bV_some, bR_some, bL_some, ob_some, cd_t, cd_f, cd_d, okO_setI, okA_setI, okL_setI, aLen_setI, hR_setI, hI_setI, Bool.true_and, Bool.and_true, Bool.and_self, Option.isNone_some, Option.isSome_some, Option.isNone_none, Option.isSome_none, okO_chI, okA_chI, okL_chI, aLen_chI, hR_chI, ↓reduceIte, not_true_eq_false, not_false_eq_true, eq_self, c10, WD w (isD_3 q.1), Q136 w q]
  refine lp_j (fun b m j => rW (d + 2) 257 (7, (0, 0), [some (rz_r (some (5 + 3 * k))), some (rz_i (nI F)), some (rz_i m), some (rz_i (nI b)), j.1, j.2], [], h)) (fun m => some (rz_i m, h)) (fun b m => mn m (nI (mir F g b))) F (fun b m j hb => ⟨(some (rz_i (nI (mir F g b))), some (rz_i (nI (F / 2)))), ?_⟩) (fun m j => ?_) F 0 (nI F) (none, none) (by omega)
  · rw [E257_7]
    simp (disch := omega) only [bI_some, bV_some, bR_some, bL_some, ob_some, cd_t, cd_f, cd_d, okO_setI, okA_setI, okL_setI, aLen_setI, hR_setI, hI_setI, Bool.true_and, Bool.and_true, Bool.and_self, Option.isNone_some, Option.isSome_some, Option.isNone_none, Option.isSome_none, okO_chI, okA_chI, okL_chI, aLen_chI, hR_chI, ↓reduceIte, not_true_eq_false, not_false_eq_true, eq_self, c10, Nat.zero_add, nI_add, litA, litB, litM, nI_mul, nI_leI, nI_ltI, nI_eq, litLe, litLe2, litLt, litLt2, litEq, litEq2, in_nI, lit_in, nI_clamp, lit_cl, if_pos, if_neg]
    refine Eq.trans (lp_i0 (fun i c => rW (d + 2) 257 (14, (0, 0), [some (rz_r (some (5 + 3 * k))), some (rz_i (nI F)), some (rz_i m), some (rz_i (nI b)), some (rz_i (nI c)), some (rz_i (nI i))], [], h)) (fun i c => if (!decide (Gp F g (nI b + nI i) = Gp F g (nI b - 1 - nI i))) = true then c + 1 else c) (F / 2) 0 (fun i c hi => ?_)) ?_
    · rw [E257_14]
      by_cases hq : Gp F g (nI b + nI i) = Gp F g (nI b - 1 - nI i) <;> simp (disch := omega) only [bI_some, bV_some, bR_some, bL_some, ob_some, cd_t, cd_f, cd_d, okO_setI, okA_setI, okL_setI, aLen_setI, hR_setI, hI_setI, Bool.true_and, Bool.and_true, Bool.and_self, Option.isNone_some, Option.isSome_some, Option.isNone_none, Option.isSome_none, okO_chI, okA_chI, okL_chI, aLen_chI, hR_chI, ↓reduceIte, not_true_eq_false, not_false_eq_true, eq_self, c10, nI_half hF, nI_leI, if_neg, nI_1, WD w (isD_3 q.1), Q144 w q, hq, decide_true, decide_false, Bool.not_true, Bool.not_false, Bool.false_eq_true]
    · rw [E257_14]
      simp (disch := omega) only [bI_some, bV_some, bR_some, bL_some, ob_some, cd_t, cd_f, cd_d, okO_setI, okA_setI, okL_setI, aLen_setI, hR_setI, hI_setI, Bool.true_and, Bool.and_true, Bool.and_self, Option.isNone_some, Option.isSome_some, Option.isNone_none, Option.isSome_none, okO_chI, okA_chI, okL_chI, aLen_chI, hR_chI, ↓reduceIte, not_true_eq_false, not_false_eq_true, eq_self, c10, nI_half hF, nI_leI, if_pos, nI_1, T278]
      rfl
  · rw [E257_7]
    simp (disch := omega) only [bI_some, bV_some, bR_some, bL_some, ob_some, cd_t, cd_f, cd_d, okO_setI, okA_setI, okL_setI, aLen_setI, hR_setI, hI_setI, Bool.true_and, Bool.and_true, Bool.and_self, Option.isNone_some, Option.isSome_some, Option.isNone_none, Option.isSome_none, okO_chI, okA_chI, okL_chI, aLen_chI, hR_chI, ↓reduceIte, not_true_eq_false, not_false_eq_true, eq_self, c10, Nat.zero_add, nI_add, litA, litB, litM, nI_mul, nI_leI, nI_ltI, nI_eq, litLe, litLe2, litLt, litLt2, litEq, litEq2, in_nI, lit_in, nI_clamp, lit_cl, if_pos, if_neg]
theorem Q102 {rb dr : Nat} {jd : Option Nat} {h : rz_H} (w : Wf rb dr jd h) {k F : Nat} {g : Nat → Nat} (q : Dq h k F g) (d : Nat) : cW (d + 3) 102 [rz_r (some 109), rz_i (nI k)] h = some (rz_i (itr (fun b m => mn m (nI (mir F g b))) 0 F 1000000), h) := by
  have hF := q.2.2.1
  rw [E102]
  simp only [bI_some, bV_some, bR_some, bL_some, ob_some, cd_t, cd_f, cd_d, okO_setI, okA_setI, okL_setI, aLen_setI, hR_setI, hI_setI, Bool.true_and, Bool.and_true, Bool.and_self, Option.isNone_some, Option.isSome_some, Option.isNone_none, Option.isSome_none, okO_chI, okA_chI, okL_chI, aLen_chI, hR_chI, ↓reduceIte, not_true_eq_false, not_false_eq_true, eq_self, c10, WMd w, Q41 w q]
  refine lp_j (fun b m j => rW (d + 2) 102 (8, (0, 0), [some (rz_r (some 109)), some (rz_i (nI k)), some (rz_i (nI F)), some (rz_i m), some (rz_i (nI b)), j.1, j.2], [], h)) (fun m => some (rz_i m, h)) (fun b m => mn m (nI (mir F g b))) F (fun b m j hb => ⟨(some (rz_i (nI (mir F g b))), some (rz_i (nI (F / 2)))), ?_⟩) (fun m j => ?_) F 0 1000000 (none, none) (by omega)
  · rw [E102_8]
    simp (disch := omega) only [bI_some, bV_some, bR_some, bL_some, ob_some, cd_t, cd_f, cd_d, okO_setI, okA_setI, okL_setI, aLen_setI, hR_setI, hI_setI, Bool.true_and, Bool.and_true, Bool.and_self, Option.isNone_some, Option.isSome_some, Option.isNone_none, Option.isSome_none, okO_chI, okA_chI, okL_chI, aLen_chI, hR_chI, ↓reduceIte, not_true_eq_false, not_false_eq_true, eq_self, c10, Nat.zero_add, nI_add, litA, litB, litM, nI_mul, nI_leI, nI_ltI, nI_eq, litLe, litLe2, litLt, litLt2, litEq, litEq2, in_nI, lit_in, nI_clamp, lit_cl, if_pos, if_neg]
    refine Eq.trans (lp_i0 (fun i c => rW (d + 2) 102 (15, (0, 0), [some (rz_r (some 109)), some (rz_i (nI k)), some (rz_i (nI F)), some (rz_i m), some (rz_i (nI b)), some (rz_i (nI c)), some (rz_i (nI i))], [], h)) (fun i c => if (!decide (Gp F g (nI b + nI i) = Gp F g (nI b - 1 - nI i))) = true then c + 1 else c) (F / 2) 0 (fun i c hi => ?_)) ?_
    · rw [E102_15]
      by_cases hq : Gp F g (nI b + nI i) = Gp F g (nI b - 1 - nI i) <;> simp (disch := omega) only [bI_some, bV_some, bR_some, bL_some, ob_some, cd_t, cd_f, cd_d, okO_setI, okA_setI, okL_setI, aLen_setI, hR_setI, hI_setI, Bool.true_and, Bool.and_true, Bool.and_self, Option.isNone_some, Option.isSome_some, Option.isNone_none, Option.isSome_none, okO_chI, okA_chI, okL_chI, aLen_chI, hR_chI, ↓reduceIte, not_true_eq_false, not_false_eq_true, eq_self, c10, nI_half hF, nI_leI, if_neg, nI_1, WMd w, Q42 w q, hq, decide_true, decide_false, Bool.not_true, Bool.not_false, Bool.false_eq_true]
    · rw [E102_15]
      simp (disch := omega) only [bI_some, bV_some, bR_some, bL_some, ob_some, cd_t, cd_f, cd_d, okO_setI, okA_setI, okL_setI, aLen_setI, hR_setI, hI_setI, Bool.true_and, Bool.and_true, Bool.and_self, Option.isNone_some, Option.isSome_some, Option.isNone_none, Option.isSome_none, okO_chI, okA_chI, okL_chI, aLen_chI, hR_chI, ↓reduceIte, not_true_eq_false, not_false_eq_true, eq_self, c10, nI_half hF, nI_leI, if_pos, nI_1, S34]
      rfl
  · rw [E102_8]
    simp (disch := omega) only [bI_some, bV_some, bR_some, bL_some, ob_some, cd_t, cd_f, cd_d, okO_setI, okA_setI, okL_setI, aLen_setI, hR_setI, hI_setI, Bool.true_and, Bool.and_true, Bool.and_self, Option.isNone_some, Option.isSome_some, Option.isNone_none, Option.isSome_none, okO_chI, okA_chI, okL_chI, aLen_chI, hR_chI, ↓reduceIte, not_true_eq_false, not_false_eq_true, eq_self, c10, Nat.zero_add, nI_add, litA, litB, litM, nI_mul, nI_leI, nI_ltI, nI_eq, litLe, litLe2, litLt, litLt2, litEq, litEq2, in_nI, lit_in, nI_clamp, lit_cl, if_pos, if_neg]
theorem mir_eq {F : Nat} (g : Nat → Nat) (h0 : 0 < F) (hF : F ≤ 16) : itr (fun b m => mn m (nI (mir F g b))) 0 F (nI F) = itr (fun b m => mn m (nI (mir F g b))) 0 F 1000000 := by
  obtain ⟨n, rfl⟩ : ∃ n, F = n + 1 := ⟨F - 1, by omega⟩
  show itr _ 1 n (mn (nI (n + 1)) (nI (mir (n + 1) g 0))) = itr _ 1 n (mn 1000000 (nI (mir (n + 1) g 0)))
  have hl : mir (n + 1) g 0 ≤ (n + 1) / 2 := cnt_le _ _
  rw [mn_nI (by omega) (by omega), show (1000000 : Int32) = nI 1000000 from rfl, mn_nI (by omega) (by omega), Nat.min_eq_right (by omega), Nat.min_eq_right (by omega)]
