/-! the fewest marks -/
def lmf (m : Nat) : Nat → Nat → Nat → Nat
  | 0, _, b => b
  | c + 1, a, b => lmf m c (max c (a - m)) (b ||| 2 ^ max c (a - m))
theorem mx_sub {c a m : Nat} (hc : c < 1000) (ha : a < 1000) (hm : m < 1000) : mx (nI c) (nI a - nI m) = nI (max c (a - m)) := by
  unfold mx
  by_cases h : c < a - m
  · rw [nI_sub (by omega), if_pos (nI_lt (by omega) (by omega)), show max c (a - m) = a - m by omega]
  · rw [if_neg (fun q => by
      rw [sub_z, Int32.lt_iff_toInt_lt, toInt_ofI (by omega) (by omega), nI_toInt (by omega)] at q
      omega), show max c (a - m) = c by omega]
theorem neg1 : (nI 0 + (-1 : Int32)) < 0 := by decide
theorem K245 (d : Nat) (h : rz_H) {m : Nat} (hm : m ≤ 16) : ∀ c a b, c ≤ 16 → a ≤ 16 → ∀ j0 j2, rW (d + 1) 245 (28, (0, 0), [j0, some (rz_i (nI m)), j2, some (rz_i (nI a)), some (rz_i (nI b)), some (rz_i (nI c + (-1 : Int32)))], [], h) = some (rz_i (nI (lmf m c a b)), h)
  | 0, a, b, _, _, j0, j2 => by
    rw [E245_28]
    simp only [bI_some, bV_some, bR_some, bL_some, ob_some, cd_t, cd_f, cd_d, okO_setI, okA_setI, okL_setI, aLen_setI, hR_setI, hI_setI, Bool.true_and, Bool.and_true, Bool.and_self, Option.isNone_some, Option.isSome_some, Option.isNone_none, Option.isSome_none, okO_chI, okA_chI, okL_chI, aLen_chI, hR_chI, ↓reduceIte, not_true_eq_false, not_false_eq_true, eq_self, c10, if_pos neg1]
    rfl
  | c + 1, a, b, hc, ha, j0, j2 => by
    have ih := K245 d h hm c (max c (a - m)) (b ||| 2 ^ max c (a - m)) (by omega) (by omega) none none
    have e2 := mx_sub (c := c) (a := a) (m := m) (by omega) (by omega) (by omega)
    have c1 : ¬ nI c < 0 := nI_pos (by omega)
    rw [E245_28, nI_p1 c]
    simp (disch := omega) only [bI_some, bV_some, bR_some, bL_some, ob_some, cd_t, cd_f, cd_d, okO_setI, okA_setI, okL_setI, aLen_setI, hR_setI, hI_setI, Bool.true_and, Bool.and_true, Bool.and_self, Option.isNone_some, Option.isSome_some, Option.isNone_none, Option.isSome_none, okO_chI, okA_chI, okL_chI, aLen_chI, hR_chI, ↓reduceIte, not_true_eq_false, not_false_eq_true, eq_self, c10, Nat.zero_add, nI_add, litA, litB, litM, nI_mul, nI_leI, nI_ltI, nI_eq, litLe, litLe2, litLt, litLt2, litEq, litEq2, in_nI, lit_in, nI_clamp, lit_cl, if_pos, if_neg, T277, e2, bit_nI, nI_or, c1]
    exact ih
def mkn (n m : Nat) : Nat := (n + m - 1) / m
def lmk (n m : Nat) : Nat := lmf m (mkn n m - 1) (n - m) (2 ^ (n - m))
def mkb (n m : Nat) : Bool := Nat.beq m 0 || (Nat.blt n m || (decide ((nI n + nI m - 1) / nI m = nI (mkn n m)) && (decide (nI (mkn n m) - 2 = nI (mkn n m - 1) + (-1 : Int32)) && (Nat.blt 0 (mkn n m) && Nat.ble (mkn n m) 16))))
theorem mkb_ck : al2 (fun n => al2 (mkb n) 17) 17 = true := by decide +kernel
theorem mkn_ck (n : Nat) (hn : n < 17) (m : Nat) (hm : m < 17) (h0 : 0 < m) (hmn : m ≤ n) : (nI n + nI m - 1) / nI m = nI (mkn n m) ∧ nI (mkn n m) - 2 = nI (mkn n m - 1) + (-1 : Int32) ∧ 0 < mkn n m ∧ mkn n m ≤ 16 := by
  have q := al2_at (al2_at mkb_ck n hn) m hm
  unfold mkb at q
  have e0 : Nat.beq m 0 = false := by
    rw [Bool.eq_false_iff]; intro e; have := Nat.eq_of_beq_eq_true e; omega
  have e1 : Nat.blt n m = false := by
    rw [Bool.eq_false_iff]; intro e
    have : n < m := Nat.le_of_ble_eq_true e
    omega
  rw [e0, e1, Bool.false_or, Bool.false_or] at q
  simp only [Bool.and_eq_true] at q
  obtain ⟨q1, q2, q3, q4⟩ := q
  exact ⟨of_decide_eq_true q1, of_decide_eq_true q2, Nat.le_of_ble_eq_true q3, Nat.le_of_ble_eq_true q4⟩
theorem Q245 (d : Nat) (h : rz_H) {n m : Nat} (hn : n ≤ 16) (h0 : 0 < m) (hm : m ≤ n) : cW (d + 2) 245 [rz_i (nI n), rz_i (nI m)] h = some (rz_i (nI (lmk n m)), h) := by
  obtain ⟨a1, a2, a3, a4⟩ := mkn_ck n (by omega) m (by omega) h0 hm
  rw [E245]
  simp only [a1, a2]
  have e1 : nI n - nI m = nI (n - m) := nI_sub hm
  simp (disch := omega) only [bI_some, bV_some, bR_some, bL_some, ob_some, cd_t, cd_f, cd_d, okO_setI, okA_setI, okL_setI, aLen_setI, hR_setI, hI_setI, Bool.true_and, Bool.and_true, Bool.and_self, Option.isNone_some, Option.isSome_some, Option.isNone_none, Option.isSome_none, okO_chI, okA_chI, okL_chI, aLen_chI, hR_chI, ↓reduceIte, not_true_eq_false, not_false_eq_true, eq_self, c10, Nat.zero_add, nI_add, litA, litB, litM, nI_mul, nI_leI, nI_ltI, nI_eq, litLe, litLe2, litLt, litLt2, litEq, litEq2, in_nI, lit_in, nI_clamp, lit_cl, if_pos, if_neg, e1, bit_nI]
  exact K245 d h (by omega) _ _ _ (by omega) (by omega) _ _
def imw (s n m a : Nat) : Bool := itr (fun i b => if s.testBit ((a + i) % n) = true then true else b) 0 m false
def imk (s n m : Nat) : Bool := (fst (fun a => !imw s n m a) 0 n).isNone
theorem M128 (d : Nat) (h : rz_H) {s n m : Nat} (hs : s < 65536) (h0 : 0 < n) (hn : n ≤ 16) (hm : m ≤ 16) : cW (d + 2) 128 [rz_i (nI s), rz_i (nI n), rz_i (nI m)] h = some (rz_i (bI1 (imk s n m)), h) := by
  rw [E128]
  refine (lp_jf (fun a (j : Option rz_V × Option rz_V) => rW (d + 1) 128 (2, (0, 0), [some (rz_i (nI s)), some (rz_i (nI n)), some (rz_i (nI m)), some (rz_i (nI a)), j.1, j.2], [], h)) (fun _ => some (rz_i 0, h)) (some (rz_i 1, h)) (fun a => !imw s n m a) n (fun a j ha => ?_) (fun j => ?_) n 0 (none, none) (by omega)).trans ?_
  · have inn := lp_i0 (fun i b => rW (d + 1) 128 (9, (0, 0), [some (rz_i (nI s)), some (rz_i (nI n)), some (rz_i (nI m)), some (rz_i (nI a)), some (rz_i (bI1 b)), some (rz_i (nI i))], [], h)) (fun i b => if s.testBit ((a + i) % n) = true then true else b) m false (fun i b hi => by
      have ml : (a + i) % n < n := Nat.mod_lt _ h0
      have eb : eyb (nI s) ((a + i) % n) = s.testBit ((a + i) % n) := eyb_nI (by omega) (by omega)
      show rW (d + 1) 128 (9, (0, 0), [some (rz_i (nI s)), some (rz_i (nI n)), some (rz_i (nI m)), some (rz_i (nI a)), some (rz_i (bI1 b)), some (rz_i (nI i))], [], h) = _
      rw [E128_9]
      simp only [irem_eq_mod]
      by_cases hb : s.testBit ((a + i) % n) = true
      · rw [hb] at eb
        simp (disch := omega) only [bI_some, bV_some, bR_some, bL_some, ob_some, cd_t, cd_f, cd_d, okO_setI, okA_setI, okL_setI, aLen_setI, hR_setI, hI_setI, Bool.true_and, Bool.and_true, Bool.and_self, Option.isNone_some, Option.isSome_some, Option.isNone_none, Option.isSome_none, okO_chI, okA_chI, okL_chI, aLen_chI, hR_chI, ↓reduceIte, not_true_eq_false, not_false_eq_true, eq_self, c10, Nat.zero_add, nI_add, litA, litB, litM, nI_mul, nI_leI, nI_ltI, nI_eq, litLe, litLe2, litLt, litLt2, litEq, litEq2, in_nI, lit_in, nI_clamp, lit_cl, if_pos, if_neg, nI_mod, S36, eb, hb, bI1]
      · have hb : s.testBit ((a + i) % n) = false := by simpa using hb
        rw [hb] at eb
        simp (disch := omega) only [bI_some, bV_some, bR_some, bL_some, ob_some, cd_t, cd_f, cd_d, okO_setI, okA_setI, okL_setI, aLen_setI, hR_setI, hI_setI, Bool.true_and, Bool.and_true, Bool.and_self, Option.isNone_some, Option.isSome_some, Option.isNone_none, Option.isSome_none, okO_chI, okA_chI, okL_chI, aLen_chI, hR_chI, ↓reduceIte, not_true_eq_false, not_false_eq_true, eq_self, c10, Nat.zero_add, nI_add, litA, litB, litM, nI_mul, nI_leI, nI_ltI, nI_eq, litLe, litLe2, litLt, litLt2, litEq, litEq2, in_nI, lit_in, nI_clamp, lit_cl, if_pos, if_neg, nI_mod, S36, eb, hb, bI1, Bool.false_eq_true])
    have inn : rW (d + 1) 128 (9, (0, 0), [some (rz_i (nI s)), some (rz_i (nI n)), some (rz_i (nI m)), some (rz_i (nI a)), some (rz_i 0), some (rz_i 0)], [], h) = rW (d + 1) 128 (9, (0, 0), [some (rz_i (nI s)), some (rz_i (nI n)), some (rz_i (nI m)), some (rz_i (nI a)), some (rz_i (bI1 (imw s n m a))), some (rz_i (nI m))], [], h) := inn
    refine ⟨fun hp => ?_, fun hp => ⟨(some (rz_i 1), some (rz_i (nI m))), ?_⟩⟩
    · have hp : imw s n m a = false := by simpa using hp
      rw [E128_2]
      simp (disch := omega) only [bI_some, bV_some, bR_some, bL_some, ob_some, cd_t, cd_f, cd_d, okO_setI, okA_setI, okL_setI, aLen_setI, hR_setI, hI_setI, Bool.true_and, Bool.and_true, Bool.and_self, Option.isNone_some, Option.isSome_some, Option.isNone_none, Option.isSome_none, okO_chI, okA_chI, okL_chI, aLen_chI, hR_chI, ↓reduceIte, not_true_eq_false, not_false_eq_true, eq_self, c10, Nat.zero_add, nI_add, litA, litB, litM, nI_mul, nI_leI, nI_ltI, nI_eq, litLe, litLe2, litLt, litLt2, litEq, litEq2, in_nI, lit_in, nI_clamp, lit_cl, if_pos, if_neg]
      rw [inn, hp, E128_9]
      simp (disch := omega) only [bI_some, bV_some, bR_some, bL_some, ob_some, cd_t, cd_f, cd_d, okO_setI, okA_setI, okL_setI, aLen_setI, hR_setI, hI_setI, Bool.true_and, Bool.and_true, Bool.and_self, Option.isNone_some, Option.isSome_some, Option.isNone_none, Option.isSome_none, okO_chI, okA_chI, okL_chI, aLen_chI, hR_chI, ↓reduceIte, not_true_eq_false, not_false_eq_true, eq_self, c10, Nat.zero_add, nI_add, litA, litB, litM, nI_mul, nI_leI, nI_ltI, nI_eq, litLe, litLe2, litLt, litLt2, litEq, litEq2, in_nI, lit_in, nI_clamp, lit_cl, if_pos, if_neg, bI1, Bool.false_eq_true]
    · have hp : imw s n m a = true := by simpa using hp
      rw [E128_2]
      simp (disch := omega) only [bI_some, bV_some, bR_some, bL_some, ob_some, cd_t, cd_f, cd_d, okO_setI, okA_setI, okL_setI, aLen_setI, hR_setI, hI_setI, Bool.true_and, Bool.and_true, Bool.and_self, Option.isNone_some, Option.isSome_some, Option.isNone_none, Option.isSome_none, okO_chI, okA_chI, okL_chI, aLen_chI, hR_chI, ↓reduceIte, not_true_eq_false, not_false_eq_true, eq_self, c10, Nat.zero_add, nI_add, litA, litB, litM, nI_mul, nI_leI, nI_ltI, nI_eq, litLe, litLe2, litLt, litLt2, litEq, litEq2, in_nI, lit_in, nI_clamp, lit_cl, if_pos, if_neg]
      rw [inn, hp, E128_9]
      simp (disch := omega) only [bI_some, bV_some, bR_some, bL_some, ob_some, cd_t, cd_f, cd_d, okO_setI, okA_setI, okL_setI, aLen_setI, hR_setI, hI_setI, Bool.true_and, Bool.and_true, Bool.and_self, Option.isNone_some, Option.isSome_some, Option.isNone_none, Option.isSome_none, okO_chI, okA_chI, okL_chI, aLen_chI, hR_chI, ↓reduceIte, not_true_eq_false, not_false_eq_true, eq_self, c10, Nat.zero_add, nI_add, litA, litB, litM, nI_mul, nI_leI, nI_ltI, nI_eq, litLe, litLe2, litLt, litLt2, litEq, litEq2, in_nI, lit_in, nI_clamp, lit_cl, if_pos, if_neg, bI1]
  · rw [E128_2]
    simp (disch := omega) only [bI_some, bV_some, bR_some, bL_some, ob_some, cd_t, cd_f, cd_d, okO_setI, okA_setI, okL_setI, aLen_setI, hR_setI, hI_setI, Bool.true_and, Bool.and_true, Bool.and_self, Option.isNone_some, Option.isSome_some, Option.isNone_none, Option.isSome_none, okO_chI, okA_chI, okL_chI, aLen_chI, hR_chI, ↓reduceIte, not_true_eq_false, not_false_eq_true, eq_self, c10, Nat.zero_add, nI_add, litA, litB, litM, nI_mul, nI_leI, nI_ltI, nI_eq, litLe, litLe2, litLt, litLt2, litEq, litEq2, in_nI, lit_in, nI_clamp, lit_cl, if_pos, if_neg]
  · unfold imk
    rcases fst (fun a => !imw s n m a) 0 n with _ | a <;> rfl
def mk1 (n m c s : Nat) : Bool := Nat.ble c s || (!Nat.beq (bcN s) (mkn n m) || !imk s n m)
def mkc (n m c : Nat) : Bool := (Nat.beq (bcN c) (mkn n m) && imk c n m) && ((Nat.blt 0 c && Nat.blt c 65536) && bif Nat.beq m 1 then Nat.beq c (2 ^ n - 1) else al2 (fun a => al2 (fun b => mk1 n m c (2 ^ (n - m) + (256 * a + b))) 256) ((c - 2 ^ (n - m)) / 256 + 1))
theorem mk_ckA : al2 (fun n => al2 (fun m => Nat.beq m 0 || (Nat.blt n m || mkc n m (lmk n m))) 17) 16 = true := by decide +kernel
theorem mk_ckB : al2 (fun m => Nat.beq m 0 || (Nat.blt 16 m || mkc 16 m (lmk 16 m))) 17 = true := by decide +kernel
theorem imw_ex {s n a : Nat} : ∀ m, imw s n m a = true → ∃ i, i < m ∧ s.testBit ((a + i) % n) = true
  | 0, h => absurd h (by simp [imw, itr])
  | m + 1, h => by
    unfold imw at h
    rw [itr_succ, Nat.zero_add] at h
    by_cases c : s.testBit ((a + m) % n) = true
    · exact ⟨m, by omega, c⟩
    · rw [if_neg c] at h
      obtain ⟨i, i1, i2⟩ := imw_ex m h
      exact ⟨i, by omega, i2⟩
theorem imk_at {s n m : Nat} (h : imk s n m = true) {a : Nat} (ha : a < n) : ∃ i, i < m ∧ s.testBit ((a + i) % n) = true := by
  unfold imk at h
  have hn : fst (fun a => !imw s n m a) 0 n = none := by
    cases e : fst (fun a => !imw s n m a) 0 n with
    | none => rfl
    | some x => rw [e] at h; exact absurd h (by simp)
  have := fst_none n 0 hn a (by omega) (by omega)
  exact imw_ex m (by simpa using this)
theorem imk_lo {s n m : Nat} (h0 : 0 < m) (hm : m ≤ n) (h : imk s n m = true) : 2 ^ (n - m) ≤ s := by
  obtain ⟨i, i1, i2⟩ := imk_at h (a := n - m) (by omega)
  rw [Nat.mod_eq_of_lt (by omega)] at i2
  refine Nat.not_lt.mp fun hl => ?_
  have : s < 2 ^ (n - m + i) := Nat.lt_of_lt_of_le hl (Nat.pow_le_pow_right (by omega) (by omega))
  rw [Nat.testBit_lt_two_pow this] at i2
  exact absurd i2 (by simp)
theorem imk_1 {s n : Nat} (h : imk s n 1 = true) : 2 ^ n - 1 ≤ s := by
  have e : s % 2 ^ n = 2 ^ n - 1 := Nat.eq_of_testBit_eq fun i => by
    rw [Nat.testBit_mod_two_pow, Nat.testBit_two_pow_sub_one]
    by_cases hi : i < n
    · obtain ⟨k, k1, k2⟩ := imk_at h hi
      have : k = 0 := by omega
      subst this
      rw [Nat.add_zero, Nat.mod_eq_of_lt hi] at k2
      rw [k2, Bool.and_true]
    · rw [decide_eq_false hi, Bool.false_and]
  rw [← e]
  exact Nat.mod_le _ _
theorem mk_at {n m : Nat} (hn : n ≤ 16) (h0 : 0 < m) (hm : m ≤ n) : pcn (lmk n m) = mkn n m ∧ imk (lmk n m) n m = true ∧ 0 < lmk n m ∧ lmk n m < 65536 ∧ ∀ s, 0 < s → s < lmk n m → pcn s = mkn n m → imk s n m = false := by
  have q : (Nat.beq m 0 || (Nat.blt n m || mkc n m (lmk n m))) = true := by
    by_cases e : n = 16
    · subst e
      exact al2_at mk_ckB m (by omega)
    · exact al2_at (al2_at mk_ckA n (by omega)) m (by omega)
  have e0 : Nat.beq m 0 = false := by
    rw [Bool.eq_false_iff]; intro e; have := Nat.eq_of_beq_eq_true e; omega
  have e1 : Nat.blt n m = false := by
    rw [Bool.eq_false_iff]; intro e
    have : n < m := Nat.le_of_ble_eq_true e
    omega
  rw [e0, e1, Bool.false_or, Bool.false_or] at q
  generalize lmk n m = c at q
  unfold mkc at q
  simp only [Bool.and_eq_true] at q
  obtain ⟨⟨q1, q2⟩, ⟨q3, q4⟩, q5⟩ := q
  have q3 : 0 < c := Nat.le_of_ble_eq_true q3
  have q4 : c < 65536 := Nat.le_of_ble_eq_true q4
  refine ⟨by rw [← bc_pc q4]; exact Nat.eq_of_beq_eq_true q1, q2, q3, q4, fun s s0 sc sp => ?_⟩
  rw [Bool.eq_false_iff]
  intro hk
  by_cases m1 : m = 1
  · subst m1
    have : c = 2 ^ n - 1 := Nat.eq_of_beq_eq_true q5
    have := imk_1 hk
    omega
  · have m2 : Nat.beq m 1 = false := by
      rw [Bool.eq_false_iff]; intro e; exact m1 (Nat.eq_of_beq_eq_true e)
    rw [m2, cd_f] at q5
    have lo := imk_lo h0 hm hk
    have hu : s - 2 ^ (n - m) ≤ c - 2 ^ (n - m) := by omega
    have z := al2_at (al2_at q5 ((s - 2 ^ (n - m)) / 256) (by have := Nat.div_le_div_right (c := 256) hu; omega)) ((s - 2 ^ (n - m)) % 256) (by omega)
    rw [show 2 ^ (n - m) + (256 * ((s - 2 ^ (n - m)) / 256) + (s - 2 ^ (n - m)) % 256) = s by omega] at z
    unfold mk1 at z
    have f1 : Nat.ble c s = false := by
      rw [Bool.eq_false_iff]; intro e; have := Nat.le_of_ble_eq_true e; omega
    have f2 : Nat.beq (bcN s) (mkn n m) = true := by
      rw [bc_pc (by omega), sp]; exact Nat.beq_refl _
    rw [f1, f2, hk] at z
    exact absurd z (by simp)
theorem lp_to {τ ρ : Type} (P : Nat → τ → ρ) (c : Nat) (hs : ∀ i j, 0 < i → i < c → ∃ j2, P i j = P (i + 1) j2) : ∀ k i j, 0 < i → i + k = c → ∃ j2, P i j = P c j2
  | 0, i, j, _, e => by
    have : i = c := by omega
    subst this
    exact ⟨j, rfl⟩
  | k + 1, i, j, h0, e => by
    obtain ⟨j2, e2⟩ := hs i j h0 (by omega)
    rw [e2]
    exact lp_to P c hs k (i + 1) j2 (by omega) (by omega)
theorem M129 (d : Nat) (h : rz_H) {n m : Nat} (hn : n ≤ 16) (h0 : 0 < m) (hm : m ≤ n) (j0 j1 j3 : Option rz_V) : rW (d + 2) 129 (36, (0, 0), [j0, j1, some (rz_i (nI m)), j3, some (rz_i (nI n)), some (rz_i (nI (mkn n m))), some (rz_i 1)], [], h) = some (rz_i (nI (lmk n m)), h) := by
  obtain ⟨a1, a2, a3, a4⟩ := mkn_ck n (by omega) m (by omega) h0 hm
  obtain ⟨b1, b2, b3, b4, b5⟩ := mk_at hn h0 hm
  obtain ⟨j, e⟩ := lp_to (fun s (j : Option rz_V × Option rz_V × Option rz_V) => rW (d + 2) 129 (36, (0, 0), [j.1, j.2.1, some (rz_i (nI m)), j.2.2, some (rz_i (nI n)), some (rz_i (nI (mkn n m))), some (rz_i (nI s))], [], h)) (lmk n m) (fun s j s0 sc => ⟨(none, none, none), by
    have hp := pcn_le s
    show rW (d + 2) 129 (36, (0, 0), [j.1, j.2.1, some (rz_i (nI m)), j.2.2, some (rz_i (nI n)), some (rz_i (nI (mkn n m))), some (rz_i (nI s))], [], h) = _
    rw [E129_36]
    by_cases c : pcn s = mkn n m
    · have z := b5 s s0 sc c
      simp (disch := omega) only [bI_some, bV_some, bR_some, bL_some, ob_some, cd_t, cd_f, cd_d, okO_setI, okA_setI, okL_setI, aLen_setI, hR_setI, hI_setI, Bool.true_and, Bool.and_true, Bool.and_self, Option.isNone_some, Option.isSome_some, Option.isNone_none, Option.isSome_none, okO_chI, okA_chI, okL_chI, aLen_chI, hR_chI, ↓reduceIte, not_true_eq_false, not_false_eq_true, eq_self, c10, Nat.zero_add, nI_add, litA, litB, litM, nI_mul, nI_leI, nI_ltI, nI_eq, litLe, litLe2, litLt, litLt2, litEq, litEq2, in_nI, lit_in, nI_clamp, lit_cl, if_pos, if_neg, S37, M128, z, bI1, c, Bool.false_eq_true]
    · simp (disch := omega) only [bI_some, bV_some, bR_some, bL_some, ob_some, cd_t, cd_f, cd_d, okO_setI, okA_setI, okL_setI, aLen_setI, hR_setI, hI_setI, Bool.true_and, Bool.and_true, Bool.and_self, Option.isNone_some, Option.isSome_some, Option.isNone_none, Option.isSome_none, okO_chI, okA_chI, okL_chI, aLen_chI, hR_chI, ↓reduceIte, not_true_eq_false, not_false_eq_true, eq_self, c10, Nat.zero_add, nI_add, litA, litB, litM, nI_mul, nI_leI, nI_ltI, nI_eq, litLe, litLe2, litLt, litLt2, litEq, litEq2, in_nI, lit_in, nI_clamp, lit_cl, if_pos, if_neg, S37, c]⟩) (lmk n m - 1) 1 (j0, j1, j3) (by omega) (by omega)
  refine Eq.trans e ?_
  show rW (d + 2) 129 (36, (0, 0), [j.1, j.2.1, some (rz_i (nI m)), j.2.2, some (rz_i (nI n)), some (rz_i (nI (mkn n m))), some (rz_i (nI (lmk n m)))], [], h) = _
  rw [E129_36]
  simp (disch := omega) only [bI_some, bV_some, bR_some, bL_some, ob_some, cd_t, cd_f, cd_d, okO_setI, okA_setI, okL_setI, aLen_setI, hR_setI, hI_setI, Bool.true_and, Bool.and_true, Bool.and_self, Option.isNone_some, Option.isSome_some, Option.isNone_none, Option.isSome_none, okO_chI, okA_chI, okL_chI, aLen_chI, hR_chI, ↓reduceIte, not_true_eq_false, not_false_eq_true, eq_self, c10, Nat.zero_add, nI_add, litA, litB, litM, nI_mul, nI_leI, nI_ltI, nI_eq, litLe, litLe2, litLt, litLt2, litEq, litEq2, in_nI, lit_in, nI_clamp, lit_cl, if_pos, if_neg, S37, M128, b1, b2, bI1]
theorem P26 (x y z : Int32) : Pr Rel 26 129 [rz_i x, rz_i y, rz_i z] := by
  intro h r
  obtain ⟨rb, dr, jd, w, r1, r2, r3, r4, r5⟩ := id r
  rcases tld r1 r2 x with ⟨k, F, g, rfl, q⟩ | n
  · have hF := q.2.2.1
    have h0 := q.2.1
    have s136 := Q136 w q
    by_cases hy : 1 ≤ y ∧ y ≤ nI F
    · have y1 := Int32.not_lt.mpr hy.1
      have y2 := Int32.not_lt.mpr hy.2
      by_cases hz : 0 ≤ z ∧ z ≤ 1
      · have z1 := Int32.not_lt.mpr hz.1
        obtain ⟨m, hm, rfl⟩ := nI_of (x := y) (fun q => y1 (Int32.lt_trans q (by decide)))
        have m0 : 0 < m := (nI_leI (a := 1) (b := m) (by omega) (by omega)).mp hy.1
        have mF : m ≤ F := (nI_leI (by omega) (by omega)).mp hy.2
        obtain ⟨a1, a2, a3, a4⟩ := mkn_ck F (by omega) m (by omega) m0 mF
        obtain ⟨b1, b2, b3, b4, b5⟩ := mk_at hF m0 mF
        have hm0 : ¬ nI m = 0 := nI_ne0 m0 (by omega)
        have q245 := fun d => Q245 d h hF m0 mF
        have c275 := fun d => S275 d h b4
        by_cases zz : z = 0
        · subst zz
          have l0 : ¬ (0 : Int32) < 0 := by decide
          have l1 : (0 : Int32) ≤ 1 := by decide
          have l2 : (0 : Int32) ≤ 0 := by decide
          refine ⟨nI (mkn F m), h, h, ?_, ?_, (WMd w).1, r⟩
          · rw [show DD = 99 + 1 from rfl, E26]
            simp only [bI_some, bV_some, bR_some, bL_some, ob_some, cd_t, cd_f, cd_d, okO_setI, okA_setI, okL_setI, aLen_setI, hR_setI, hI_setI, Bool.true_and, Bool.and_true, Bool.and_self, Option.isNone_some, Option.isSome_some, Option.isNone_none, Option.isSome_none, okO_chI, okA_chI, okL_chI, aLen_chI, hR_chI, ↓reduceIte, not_true_eq_false, not_false_eq_true, eq_self, c10, WRt w, Q181 w q, WD w (isD_3 q.1), s136, if_neg y1, if_neg y2, l0, l1, q245, c275, b1]
          · rw [show DD = 99 + 1 from rfl, E129]
            simp only [bI_some, bV_some, bR_some, bL_some, ob_some, cd_t, cd_f, cd_d, okO_setI, okA_setI, okL_setI, aLen_setI, hR_setI, hI_setI, Bool.true_and, Bool.and_true, Bool.and_self, Option.isNone_some, Option.isSome_some, Option.isNone_none, Option.isSome_none, okO_chI, okA_chI, okL_chI, aLen_chI, hR_chI, ↓reduceIte, not_true_eq_false, not_false_eq_true, eq_self, c10, WMd w, Q39 w q, Q41 w q, S33, if_pos hy, l1, l2, and_self, hm0, a1]
        · refine ⟨nI (lmk F m), h, h, ?_, ?_, (WMd w).1, r⟩
          · rw [show DD = 99 + 1 from rfl, E26]
            simp only [bI_some, bV_some, bR_some, bL_some, ob_some, cd_t, cd_f, cd_d, okO_setI, okA_setI, okL_setI, aLen_setI, hR_setI, hI_setI, Bool.true_and, Bool.and_true, Bool.and_self, Option.isNone_some, Option.isSome_some, Option.isNone_none, Option.isSome_none, okO_chI, okA_chI, okL_chI, aLen_chI, hR_chI, ↓reduceIte, not_true_eq_false, not_false_eq_true, eq_self, c10, WRt w, Q181 w q, WD w (isD_3 q.1), s136, if_neg y1, if_neg y2, if_neg z1, if_pos hz.2, q245, zz]
          · rw [show DD = 97 + 2 + 1 from rfl, E129]
            simp only [bI_some, bV_some, bR_some, bL_some, ob_some, cd_t, cd_f, cd_d, okO_setI, okA_setI, okL_setI, aLen_setI, hR_setI, hI_setI, Bool.true_and, Bool.and_true, Bool.and_self, Option.isNone_some, Option.isSome_some, Option.isNone_none, Option.isSome_none, okO_chI, okA_chI, okL_chI, aLen_chI, hR_chI, ↓reduceIte, not_true_eq_false, not_false_eq_true, eq_self, c10, WMd w, Q39 w q, Q41 w q, S33, if_pos hy, if_pos hz, hm0, zz, a1]
            exact M129 97 h hF m0 mF _ _ _
      · refine ⟨-1, h, h, ?_, ?_, (WMd w).1, r⟩
        · rw [show DD = 99 + 1 from rfl, E26]
          by_cases z1 : z < 0
          · simp only [bI_some, bV_some, bR_some, bL_some, ob_some, cd_t, cd_f, cd_d, okO_setI, okA_setI, okL_setI, aLen_setI, hR_setI, hI_setI, Bool.true_and, Bool.and_true, Bool.and_self, Option.isNone_some, Option.isSome_some, Option.isNone_none, Option.isSome_none, okO_chI, okA_chI, okL_chI, aLen_chI, hR_chI, ↓reduceIte, not_true_eq_false, not_false_eq_true, eq_self, c10, WRt w, Q181 w q, WD w (isD_3 q.1), s136, if_neg y1, if_neg y2, if_pos z1]
          · have z2 : ¬ z ≤ 1 := fun e => hz ⟨Int32.not_lt.mp z1, e⟩
            simp only [bI_some, bV_some, bR_some, bL_some, ob_some, cd_t, cd_f, cd_d, okO_setI, okA_setI, okL_setI, aLen_setI, hR_setI, hI_setI, Bool.true_and, Bool.and_true, Bool.and_self, Option.isNone_some, Option.isSome_some, Option.isNone_none, Option.isSome_none, okO_chI, okA_chI, okL_chI, aLen_chI, hR_chI, ↓reduceIte, not_true_eq_false, not_false_eq_true, eq_self, c10, WRt w, Q181 w q, WD w (isD_3 q.1), s136, if_neg y1, if_neg y2, if_neg z1, if_neg z2]
        · rw [show DD = 99 + 1 from rfl, E129]
          simp only [bI_some, bV_some, bR_some, bL_some, ob_some, cd_t, cd_f, cd_d, okO_setI, okA_setI, okL_setI, aLen_setI, hR_setI, hI_setI, Bool.true_and, Bool.and_true, Bool.and_self, Option.isNone_some, Option.isSome_some, Option.isNone_none, Option.isSome_none, okO_chI, okA_chI, okL_chI, aLen_chI, hR_chI, ↓reduceIte, not_true_eq_false, not_false_eq_true, eq_self, c10, WMd w, Q39 w q, Q41 w q, S33, if_pos hy, if_neg hz]
    · refine ⟨-1, h, h, ?_, ?_, (WMd w).1, r⟩
      · rw [show DD = 99 + 1 from rfl, E26]
        by_cases y1 : y < 1
        · simp only [bI_some, bV_some, bR_some, bL_some, ob_some, cd_t, cd_f, cd_d, okO_setI, okA_setI, okL_setI, aLen_setI, hR_setI, hI_setI, Bool.true_and, Bool.and_true, Bool.and_self, Option.isNone_some, Option.isSome_some, Option.isNone_none, Option.isSome_none, okO_chI, okA_chI, okL_chI, aLen_chI, hR_chI, ↓reduceIte, not_true_eq_false, not_false_eq_true, eq_self, c10, WRt w, Q181 w q, if_pos y1]
        · have y2 : nI F < y := Int32.not_le.mp fun e => hy ⟨Int32.not_lt.mp y1, e⟩
          simp only [bI_some, bV_some, bR_some, bL_some, ob_some, cd_t, cd_f, cd_d, okO_setI, okA_setI, okL_setI, aLen_setI, hR_setI, hI_setI, Bool.true_and, Bool.and_true, Bool.and_self, Option.isNone_some, Option.isSome_some, Option.isNone_none, Option.isSome_none, okO_chI, okA_chI, okL_chI, aLen_chI, hR_chI, ↓reduceIte, not_true_eq_false, not_false_eq_true, eq_self, c10, WRt w, Q181 w q, WD w (isD_3 q.1), s136, if_neg y1, if_pos y2]
      · rw [show DD = 99 + 1 from rfl, E129]
        simp only [bI_some, bV_some, bR_some, bL_some, ob_some, cd_t, cd_f, cd_d, okO_setI, okA_setI, okL_setI, aLen_setI, hR_setI, hI_setI, Bool.true_and, Bool.and_true, Bool.and_self, Option.isNone_some, Option.isSome_some, Option.isNone_none, Option.isSome_none, okO_chI, okA_chI, okL_chI, aLen_chI, hR_chI, ↓reduceIte, not_true_eq_false, not_false_eq_true, eq_self, c10, WMd w, Q39 w q, Q41 w q, S33, if_neg hy]
  · refine ⟨-1, h, h, ?_, ?_, (WMd w).1, r⟩
    · rw [show DD = 99 + 1 from rfl, E26]
      simp only [bI_some, bV_some, bR_some, bL_some, ob_some, cd_t, cd_f, cd_d, okO_setI, okA_setI, okL_setI, aLen_setI, hR_setI, hI_setI, Bool.true_and, Bool.and_true, Bool.and_self, Option.isNone_some, Option.isSome_some, Option.isNone_none, Option.isSome_none, okO_chI, okA_chI, okL_chI, aLen_chI, hR_chI, ↓reduceIte, not_true_eq_false, not_false_eq_true, eq_self, c10, WRt w, N181 w n]
    · rw [show DD = 99 + 1 from rfl, E129]
      simp only [bI_some, bV_some, bR_some, bL_some, ob_some, cd_t, cd_f, cd_d, okO_setI, okA_setI, okL_setI, aLen_setI, hR_setI, hI_setI, Bool.true_and, Bool.and_true, Bool.and_self, Option.isNone_some, Option.isSome_some, Option.isNone_none, Option.isSome_none, okO_chI, okA_chI, okL_chI, aLen_chI, hR_chI, ↓reduceIte, not_true_eq_false, not_false_eq_true, eq_self, c10, WMd w, N39 w n]
