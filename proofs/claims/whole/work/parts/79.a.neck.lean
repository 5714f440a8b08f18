/-! how many drums there can be -/
def pwl (x : Int32) (e : Nat) : Int64 := itr (fun _ y => y * Int32.toInt64 x) 0 e (Int32.toInt64 1)
theorem N250 (d : Nat) (h : rz_H) (x : Int32) {e : Nat} (he : e < 100) : cW (d + 1) 250 [rz_i x, rz_i (nI e)] h = some (rz_l (pwl x e), h) := by
  rw [E250]
  refine lp_j (fun i y (j : Option rz_V) => rW d 250 (4, (0, 0), [some (rz_i x), some (rz_i (nI e)), some (rz_l y), j, some (rz_i (nI i))], [], h)) (fun y => some (rz_l y, h)) (fun _ y => y * Int32.toInt64 x) e (fun i y j hi => ⟨none, ?_⟩) (fun y j => ?_) e 0 _ none (by omega)
  · rw [E250_4]; simp (disch := omega) only [bI_some, bV_some, bR_some, bL_some, ob_some, cd_t, cd_f, cd_d, okO_setI, okA_setI, okL_setI, aLen_setI, hR_setI, hI_setI, Bool.true_and, Bool.and_true, Bool.and_self, Option.isNone_some, Option.isSome_some, Option.isNone_none, Option.isSome_none, okO_chI, okA_chI, okL_chI, aLen_chI, hR_chI, ↓reduceIte, not_true_eq_false, not_false_eq_true, eq_self, c10, Nat.zero_add, nI_add, litA, litB, litM, nI_mul, nI_leI, nI_ltI, nI_eq, litLe, litLe2, litLt, litLt2, litEq, litEq2, in_nI, lit_in, nI_clamp, lit_cl, if_pos, if_neg]
  · rw [E250_4]; simp (disch := omega) only [bI_some, bV_some, bR_some, bL_some, ob_some, cd_t, cd_f, cd_d, okO_setI, okA_setI, okL_setI, aLen_setI, hR_setI, hI_setI, Bool.true_and, Bool.and_true, Bool.and_self, Option.isNone_some, Option.isSome_some, Option.isNone_none, Option.isSome_none, okO_chI, okA_chI, okL_chI, aLen_chI, hR_chI, ↓reduceIte, not_true_eq_false, not_false_eq_true, eq_self, c10, Nat.zero_add, nI_add, litA, litB, litM, nI_mul, nI_leI, nI_ltI, nI_eq, litLe, litLe2, litLt, litLt2, litEq, litEq2, in_nI, lit_in, nI_clamp, lit_cl, if_pos, if_neg]
theorem N125 (d : Nat) (h : rz_H) (x : Int32) {e : Nat} (he : e < 100) : cW (d + 1) 125 [rz_i x, rz_i (nI e)] h = some (rz_l (pwl x e), h) := by
  rw [E125]
  refine lp_j (fun i y (j : Option rz_V) => rW d 125 (4, (0, 0), [some (rz_i x), some (rz_i (nI e)), some (rz_l y), j, some (rz_i (nI i))], [], h)) (fun y => some (rz_l y, h)) (fun _ y => y * Int32.toInt64 x) e (fun i y j hi => ⟨none, ?_⟩) (fun y j => ?_) e 0 _ none (by omega)
  · rw [E125_4]; simp (disch := omega) only [bI_some, bV_some, bR_some, bL_some, ob_some, cd_t, cd_f, cd_d, okO_setI, okA_setI, okL_setI, aLen_setI, hR_setI, hI_setI, Bool.true_and, Bool.and_true, Bool.and_self, Option.isNone_some, Option.isSome_some, Option.isNone_none, Option.isSome_none, okO_chI, okA_chI, okL_chI, aLen_chI, hR_chI, ↓reduceIte, not_true_eq_false, not_false_eq_true, eq_self, c10, Nat.zero_add, nI_add, litA, litB, litM, nI_mul, nI_leI, nI_ltI, nI_eq, litLe, litLe2, litLt, litLt2, litEq, litEq2, in_nI, lit_in, nI_clamp, lit_cl, if_pos, if_neg]
  · rw [E125_4]; simp (disch := omega) only [bI_some, bV_some, bR_some, bL_some, ob_some, cd_t, cd_f, cd_d, okO_setI, okA_setI, okL_setI, aLen_setI, hR_setI, hI_setI, Bool.true_and, Bool.and_true, Bool.and_self, Option.isNone_some, Option.isSome_some, Option.isNone_none, Option.isSome_none, okO_chI, okA_chI, okL_chI, aLen_chI, hR_chI, ↓reduceIte, not_true_eq_false, not_false_eq_true, eq_self, c10, Nat.zero_add, nI_add, litA, litB, litM, nI_mul, nI_leI, nI_ltI, nI_eq, litLe, litLe2, litLt, litLt2, litEq, litEq2, in_nI, lit_in, nI_clamp, lit_cl, if_pos, if_neg]
def cdv (a b : Nat) : Nat → Nat
  | 0 => 1
  | 1 => 1
  | m + 2 => if a % (m + 2) = 0 ∧ b % (m + 2) = 0 then m + 2 else cdv a b (m + 1)
theorem cdv_le (a b : Nat) : ∀ m, cdv a b m ≤ m + 1
  | 0 => by show 1 ≤ 1; omega
  | 1 => by show 1 ≤ 2; omega
  | m + 2 => by
    unfold cdv
    have := cdv_le a b (m + 1)
    split <;> omega
theorem nI_p1 (m : Nat) : nI (m + 1) + (-1 : Int32) = nI m := by
  rw [← nI_add m 1, Int32.add_assoc, show nI 1 + (-1 : Int32) = 0 from rfl, Int32.add_zero]
theorem N249a (d : Nat) (h : rz_H) {a b : Nat} (ha : a ≤ 12) (hb : b ≤ 12) : ∀ m, m ≤ 12 → rW d 249 (4, (0, 0), [some (rz_i (nI a)), some (rz_i (nI b)), some (rz_i (nI m))], [], h) = some (rz_i (nI (cdv a b m)), h)
  | 0, _ => by
    rw [E249_4]
    simp (disch := omega) only [bI_some, bV_some, bR_some, bL_some, ob_some, cd_t, cd_f, cd_d, okO_setI, okA_setI, okL_setI, aLen_setI, hR_setI, hI_setI, Bool.true_and, Bool.and_true, Bool.and_self, Option.isNone_some, Option.isSome_some, Option.isNone_none, Option.isSome_none, okO_chI, okA_chI, okL_chI, aLen_chI, hR_chI, ↓reduceIte, not_true_eq_false, not_false_eq_true, eq_self, c10, Nat.zero_add, nI_add, litA, litB, litM, nI_mul, nI_leI, nI_ltI, nI_eq, litLe, litLe2, litLt, litLt2, litEq, litEq2, in_nI, lit_in, nI_clamp, lit_cl, if_pos, if_neg]
    rfl
  | 1, _ => by
    rw [E249_4]
    simp (disch := omega) only [bI_some, bV_some, bR_some, bL_some, ob_some, cd_t, cd_f, cd_d, okO_setI, okA_setI, okL_setI, aLen_setI, hR_setI, hI_setI, Bool.true_and, Bool.and_true, Bool.and_self, Option.isNone_some, Option.isSome_some, Option.isNone_none, Option.isSome_none, okO_chI, okA_chI, okL_chI, aLen_chI, hR_chI, ↓reduceIte, not_true_eq_false, not_false_eq_true, eq_self, c10, Nat.zero_add, nI_add, litA, litB, litM, nI_mul, nI_leI, nI_ltI, nI_eq, litLe, litLe2, litLt, litLt2, litEq, litEq2, in_nI, lit_in, nI_clamp, lit_cl, if_pos, if_neg]
    rfl
  | m + 2, hm => by
    have ih := N249a d h ha hb (m + 1) (by omega)
    have e1 : nI (m + 2) + (-1 : Int32) = nI (m + 1) := nI_p1 (m + 1)
    have m1 : a % (m + 2) < m + 2 := Nat.mod_lt _ (by omega)
    have m2 : b % (m + 2) < m + 2 := Nat.mod_lt _ (by omega)
    rw [E249_4]
    unfold cdv
    simp only [irem_eq_mod]
    by_cases c1 : a % (m + 2) = 0
    · by_cases c2 : b % (m + 2) = 0
      · simp (disch := omega) only [bI_some, bV_some, bR_some, bL_some, ob_some, cd_t, cd_f, cd_d, okO_setI, okA_setI, okL_setI, aLen_setI, hR_setI, hI_setI, Bool.true_and, Bool.and_true, Bool.and_self, Option.isNone_some, Option.isSome_some, Option.isNone_none, Option.isSome_none, okO_chI, okA_chI, okL_chI, aLen_chI, hR_chI, ↓reduceIte, not_true_eq_false, not_false_eq_true, eq_self, c10, Nat.zero_add, nI_add, litA, litB, litM, nI_mul, nI_leI, nI_ltI, nI_eq, litLe, litLe2, litLt, litLt2, litEq, litEq2, in_nI, lit_in, nI_clamp, lit_cl, if_pos, if_neg, nI_mod, c1, c2, and_self]
      · simp (disch := omega) only [bI_some, bV_some, bR_some, bL_some, ob_some, cd_t, cd_f, cd_d, okO_setI, okA_setI, okL_setI, aLen_setI, hR_setI, hI_setI, Bool.true_and, Bool.and_true, Bool.and_self, Option.isNone_some, Option.isSome_some, Option.isNone_none, Option.isSome_none, okO_chI, okA_chI, okL_chI, aLen_chI, hR_chI, ↓reduceIte, not_true_eq_false, not_false_eq_true, eq_self, c10, Nat.zero_add, nI_add, litA, litB, litM, nI_mul, nI_leI, nI_ltI, nI_eq, litLe, litLe2, litLt, litLt2, litEq, litEq2, in_nI, lit_in, nI_clamp, lit_cl, if_pos, if_neg, nI_mod, c1, c2, and_false, e1, ih]
    · simp (disch := omega) only [bI_some, bV_some, bR_some, bL_some, ob_some, cd_t, cd_f, cd_d, okO_setI, okA_setI, okL_setI, aLen_setI, hR_setI, hI_setI, Bool.true_and, Bool.and_true, Bool.and_self, Option.isNone_some, Option.isSome_some, Option.isNone_none, Option.isSome_none, okO_chI, okA_chI, okL_chI, aLen_chI, hR_chI, ↓reduceIte, not_true_eq_false, not_false_eq_true, eq_self, c10, Nat.zero_add, nI_add, litA, litB, litM, nI_mul, nI_leI, nI_ltI, nI_eq, litLe, litLe2, litLt, litLt2, litEq, litEq2, in_nI, lit_in, nI_clamp, lit_cl, if_pos, if_neg, nI_mod, c1, false_and, e1, ih]
theorem N249 (d : Nat) (h : rz_H) {a b : Nat} (ha : a ≤ 12) (hb : b ≤ 12) : cW (d + 2) 249 [rz_i (nI a), rz_i (nI b)] h = some (rz_i (nI (cdv a b (min a b))), h) := by
  rw [E249]
  simp (disch := omega) only [bI_some, bV_some, bR_some, bL_some, ob_some, cd_t, cd_f, cd_d, okO_setI, okA_setI, okL_setI, aLen_setI, hR_setI, hI_setI, Bool.true_and, Bool.and_true, Bool.and_self, Option.isNone_some, Option.isSome_some, Option.isNone_none, Option.isSome_none, okO_chI, okA_chI, okL_chI, aLen_chI, hR_chI, ↓reduceIte, not_true_eq_false, not_false_eq_true, eq_self, c10, Nat.zero_add, nI_add, litA, litB, litM, nI_mul, nI_leI, nI_ltI, nI_eq, litLe, litLe2, litLt, litLt2, litEq, litEq2, in_nI, lit_in, nI_clamp, lit_cl, if_pos, if_neg, T278, mn_nI]
  exact N249a (d + 1) h ha hb _ (by omega)
theorem N124a (d : Nat) (h : rz_H) : ∀ y x, x ≤ 12 → y ≤ 12 → ∀ j0 j1 j4, rW d 124 (4, (0, 0), [j0, j1, some (rz_i (nI x)), some (rz_i (nI y)), j4], [], h) = some (rz_i (nI (Nat.gcd x y)), h) := by
  intro y
  induction y using Nat.strongRecOn with
  | ind y ih =>
    intro x hx hy j0 j1 j4
    rw [E124_4]
    by_cases c : y = 0
    · subst c
      simp (disch := omega) only [bI_some, bV_some, bR_some, bL_some, ob_some, cd_t, cd_f, cd_d, okO_setI, okA_setI, okL_setI, aLen_setI, hR_setI, hI_setI, Bool.true_and, Bool.and_true, Bool.and_self, Option.isNone_some, Option.isSome_some, Option.isNone_none, Option.isSome_none, okO_chI, okA_chI, okL_chI, aLen_chI, hR_chI, ↓reduceIte, not_true_eq_false, not_false_eq_true, eq_self, c10, Nat.zero_add, nI_add, litA, litB, litM, nI_mul, nI_leI, nI_ltI, nI_eq, litLe, litLe2, litLt, litLt2, litEq, litEq2, in_nI, lit_in, nI_clamp, lit_cl, if_pos, if_neg, Nat.gcd_zero_right]
    · have ml : x % y < y := Nat.mod_lt _ (by omega)
      simp only [irem_eq_mod]
      simp (disch := omega) only [bI_some, bV_some, bR_some, bL_some, ob_some, cd_t, cd_f, cd_d, okO_setI, okA_setI, okL_setI, aLen_setI, hR_setI, hI_setI, Bool.true_and, Bool.and_true, Bool.and_self, Option.isNone_some, Option.isSome_some, Option.isNone_none, Option.isSome_none, okO_chI, okA_chI, okL_chI, aLen_chI, hR_chI, ↓reduceIte, not_true_eq_false, not_false_eq_true, eq_self, c10, Nat.zero_add, nI_add, litA, litB, litM, nI_mul, nI_leI, nI_ltI, nI_eq, litLe, litLe2, litLt, litLt2, litEq, litEq2, in_nI, lit_in, nI_clamp, lit_cl, if_pos, if_neg, nI_mod]
      rw [ih (x % y) ml y hy (by omega), Nat.gcd_comm x y, Nat.gcd_rec y x, Nat.gcd_comm y]
theorem N124 (d : Nat) (h : rz_H) {a b : Nat} (ha : a ≤ 12) (hb : b ≤ 12) : cW (d + 1) 124 [rz_i (nI a), rz_i (nI b)] h = some (rz_i (nI (Nat.gcd a b)), h) := by
  rw [E124]
  exact N124a d h b a ha hb _ _ _
def nkS (n : Nat) (x : Int32) : Int64 := itr (fun i y => y + pwl x (cdv i n (min i n))) 1 n (Int32.toInt64 0)
theorem N248 (d : Nat) (h : rz_H) {n : Nat} (hn : n ≤ 12) (x : Int32) : cW (d + 3) 248 [rz_i (nI n), rz_i x] h = some (rz_l (nkS n x), h) := by
  rw [E248]
  refine lp_jm (fun i y (j : Option rz_V) => rW (d + 2) 248 (4, (0, 0), [some (rz_i (nI n)), some (rz_i x), some (rz_l y), j, some (rz_i (nI i))], [], h)) (fun y => some (rz_l y, h)) (fun i y => y + pwl x (cdv i n (min i n))) 1 (n + 1) (fun i y j h1 hi => ⟨none, ?_⟩) (fun y j => ?_) n 1 _ none (by omega) (by omega)
  · have := cdv_le i n (min i n)
    rw [E248_4]
    simp (disch := omega) only [bI_some, bV_some, bR_some, bL_some, ob_some, cd_t, cd_f, cd_d, okO_setI, okA_setI, okL_setI, aLen_setI, hR_setI, hI_setI, Bool.true_and, Bool.and_true, Bool.and_self, Option.isNone_some, Option.isSome_some, Option.isNone_none, Option.isSome_none, okO_chI, okA_chI, okL_chI, aLen_chI, hR_chI, ↓reduceIte, not_true_eq_false, not_false_eq_true, eq_self, c10, Nat.zero_add, nI_add, litA, litB, litM, nI_mul, nI_leI, nI_ltI, nI_eq, litLe, litLe2, litLt, litLt2, litEq, litEq2, in_nI, lit_in, nI_clamp, lit_cl, if_pos, if_neg, N249, N250]
  · rw [E248_4]
    simp (disch := omega) only [bI_some, bV_some, bR_some, bL_some, ob_some, cd_t, cd_f, cd_d, okO_setI, okA_setI, okL_setI, aLen_setI, hR_setI, hI_setI, Bool.true_and, Bool.and_true, Bool.and_self, Option.isNone_some, Option.isSome_some, Option.isNone_none, Option.isSome_none, okO_chI, okA_chI, okL_chI, aLen_chI, hR_chI, ↓reduceIte, not_true_eq_false, not_false_eq_true, eq_self, c10, Nat.zero_add, nI_add, litA, litB, litM, nI_mul, nI_leI, nI_ltI, nI_eq, litLe, litLe2, litLt, litLt2, litEq, litEq2, in_nI, lit_in, nI_clamp, lit_cl, if_pos, if_neg]
def nkC (n : Nat) (x : Int32) (any : Bool) : Int64 := if any = true then (if n % 2 = 1 then (nkS n x + Int32.toInt64 (nI n) * pwl x ((n + 1) / 2)) / (Int32.toInt64 2 * Int32.toInt64 (nI n)) else (nkS n x + Int32.toInt64 (nI (n / 2)) * (pwl x (n / 2) + pwl x (n / 2 + 1))) / (Int32.toInt64 2 * Int32.toInt64 (nI n))) else nkS n x / Int32.toInt64 (nI n)
def nkf (n : Nat) (x : Int32) (any : Bool) (r : Nat) (y : Int64) : Int64 := if any = true then (if n % 2 = 1 then y + pwl x (Nat.gcd n r) + pwl x ((n + 1) / 2) else if r % 2 = 0 then y + pwl x (Nat.gcd n r) + pwl x (n / 2) else y + pwl x (Nat.gcd n r) + pwl x (n / 2 + 1)) else y + pwl x (Nat.gcd n r)
def nkM (n : Nat) (x : Int32) (any : Bool) : Int64 := if any = true then itr (nkf n x any) 0 n (Int32.toInt64 0) / Int32.toInt64 (nI (2 * n)) else itr (nkf n x any) 0 n (Int32.toInt64 0) / Int32.toInt64 (nI n)
theorem nk_ck : ∀ n, n < 13 → 0 < n → ∀ k, k < 17 → nkC n (nI k) true = nkM n (nI k) true ∧ nkC n (nI k) false = nkM n (nI k) false := by decide +kernel
theorem nk_n0 : ∀ n, n < 13 → 0 < n → ¬ Int32.toInt64 (nI n) = 0 ∧ ¬ Int32.toInt64 2 * Int32.toInt64 (nI n) = 0 ∧ ¬ Int32.toInt64 (nI (2 * n)) = 0 := by decide +kernel
theorem N247 (d : Nat) (h : rz_H) {n : Nat} (h0 : 0 < n) (hn : n ≤ 12) (x : Int32) : cW (d + 4) 247 [rz_i (nI n), rz_i x] h = some (rz_l (nkC n x true), h) := by
  obtain ⟨z1, z2, z3⟩ := nk_n0 n (by omega) h0
  have ha : nI n / (2 : Int32) = nI (n / 2) := nI_half (by omega)
  have hb : nI (n + 1) / (2 : Int32) = nI ((n + 1) / 2) := nI_half (by omega)
  have hm : nI n % (2 : Int32) = nI (n % 2) := nI_mod (b := 2) (by omega) (by omega) (by omega)
  rw [E247]
  simp only [irem_eq_mod]
  unfold nkC
  rw [if_pos rfl]
  by_cases c : n % 2 = 1
  · simp (disch := omega) only [bI_some, bV_some, bR_some, bL_some, ob_some, cd_t, cd_f, cd_d, okO_setI, okA_setI, okL_setI, aLen_setI, hR_setI, hI_setI, Bool.true_and, Bool.and_true, Bool.and_self, Option.isNone_some, Option.isSome_some, Option.isNone_none, Option.isSome_none, okO_chI, okA_chI, okL_chI, aLen_chI, hR_chI, ↓reduceIte, not_true_eq_false, not_false_eq_true, eq_self, c10, Nat.zero_add, nI_add, litA, litB, litM, nI_mul, nI_leI, nI_ltI, nI_eq, litLe, litLe2, litLt, litLt2, litEq, litEq2, in_nI, lit_in, nI_clamp, lit_cl, if_pos, if_neg, hm, ha, hb, c, N250, N248, z2]
  · have c0 : n % 2 = 0 := by omega
    simp (disch := omega) only [bI_some, bV_some, bR_some, bL_some, ob_some, cd_t, cd_f, cd_d, okO_setI, okA_setI, okL_setI, aLen_setI, hR_setI, hI_setI, Bool.true_and, Bool.and_true, Bool.and_self, Option.isNone_some, Option.isSome_some, Option.isNone_none, Option.isSome_none, okO_chI, okA_chI, okL_chI, aLen_chI, hR_chI, ↓reduceIte, not_true_eq_false, not_false_eq_true, eq_self, c10, Nat.zero_add, nI_add, litA, litB, litM, nI_mul, nI_leI, nI_ltI, nI_eq, litLe, litLe2, litLt, litLt2, litEq, litEq2, in_nI, lit_in, nI_clamp, lit_cl, if_pos, if_neg, hm, ha, hb, c0, N250, N248, z2]
theorem N246 (d : Nat) (h : rz_H) {n : Nat} (h0 : 0 < n) (hn : n ≤ 12) (x : Int32) : cW (d + 4) 246 [rz_i (nI n), rz_i x] h = some (rz_l (nkC n x false), h) := by
  obtain ⟨z1, z2, z3⟩ := nk_n0 n (by omega) h0
  rw [E246]
  unfold nkC
  rw [if_neg (by simp)]
  simp (disch := omega) only [bI_some, bV_some, bR_some, bL_some, ob_some, cd_t, cd_f, cd_d, okO_setI, okA_setI, okL_setI, aLen_setI, hR_setI, hI_setI, Bool.true_and, Bool.and_true, Bool.and_self, Option.isNone_some, Option.isSome_some, Option.isNone_none, Option.isSome_none, okO_chI, okA_chI, okL_chI, aLen_chI, hR_chI, ↓reduceIte, not_true_eq_false, not_false_eq_true, eq_self, c10, Nat.zero_add, nI_add, litA, litB, litM, nI_mul, nI_leI, nI_ltI, nI_eq, litLe, litLe2, litLt, litLt2, litEq, litEq2, in_nI, lit_in, nI_clamp, lit_cl, if_pos, if_neg, N248, z1]
theorem N126 (d : Nat) (h : rz_H) {n : Nat} (h0 : 0 < n) (hn : n ≤ 12) (x : Int32) (any : Bool) : rW (d + 1) 126 (16, (0, 0), [some (rz_r (some 109)), some (rz_i (nI n)), some (rz_i x), some (rz_i (bI1 any)), some (rz_l (Int32.toInt64 0)), none, some (rz_i 0)], [], h) = some (rz_l (nkM n x any), h) := by
  obtain ⟨z1, z2, z3⟩ := nk_n0 n (by omega) h0
  have ha : nI n / (2 : Int32) = nI (n / 2) := nI_half (by omega)
  have hb : nI (n + 1) / (2 : Int32) = nI ((n + 1) / 2) := nI_half (by omega)
  have hm : nI n % (2 : Int32) = nI (n % 2) := nI_mod (b := 2) (by omega) (by omega) (by omega)
  have hgl : ∀ r, Nat.gcd n r ≤ 12 := fun r => Nat.le_trans (Nat.le_of_dvd h0 (Nat.gcd_dvd_left n r)) hn
  refine lp_j (fun r y (j : Option rz_V × Option rz_V) => rW (d + 1) 126 (16, (0, 0), [j.1, some (rz_i (nI n)), some (rz_i x), some (rz_i (bI1 any)), some (rz_l y), j.2, some (rz_i (nI r))], [], h)) (fun y => some (rz_l (if any = true then y / Int32.toInt64 (nI (2 * n)) else y / Int32.toInt64 (nI n)), h)) (nkf n x any) n (fun r y j hr => ⟨(none, none), ?_⟩) (fun y j => ?_) n 0 _ (some (rz_r (some 109)), none) (by omega) |>.trans ?_
  · have hg := hgl r
    have hr2 : nI r % (2 : Int32) = nI (r % 2) := nI_mod (b := 2) (by omega) (by omega) (by omega)
    rw [E126_16]
    simp only [irem_eq_mod]
    unfold nkf
    cases any with
    | false => simp (disch := omega) only [bI_some, bV_some, bR_some, bL_some, ob_some, cd_t, cd_f, cd_d, okO_setI, okA_setI, okL_setI, aLen_setI, hR_setI, hI_setI, Bool.true_and, Bool.and_true, Bool.and_self, Option.isNone_some, Option.isSome_some, Option.isNone_none, Option.isSome_none, okO_chI, okA_chI, okL_chI, aLen_chI, hR_chI, ↓reduceIte, not_true_eq_false, not_false_eq_true, eq_self, c10, Nat.zero_add, nI_add, litA, litB, litM, nI_mul, nI_leI, nI_ltI, nI_eq, litLe, litLe2, litLt, litLt2, litEq, litEq2, in_nI, lit_in, nI_clamp, lit_cl, if_pos, if_neg, N124, N125, bI1, Bool.false_eq_true]
    | true =>
      by_cases c : n % 2 = 1
      · simp (disch := omega) only [bI_some, bV_some, bR_some, bL_some, ob_some, cd_t, cd_f, cd_d, okO_setI, okA_setI, okL_setI, aLen_setI, hR_setI, hI_setI, Bool.true_and, Bool.and_true, Bool.and_self, Option.isNone_some, Option.isSome_some, Option.isNone_none, Option.isSome_none, okO_chI, okA_chI, okL_chI, aLen_chI, hR_chI, ↓reduceIte, not_true_eq_false, not_false_eq_true, eq_self, c10, Nat.zero_add, nI_add, litA, litB, litM, nI_mul, nI_leI, nI_ltI, nI_eq, litLe, litLe2, litLt, litLt2, litEq, litEq2, in_nI, lit_in, nI_clamp, lit_cl, if_pos, if_neg, N124, N125, bI1, hm, hb, c]
      · have c0 : n % 2 = 0 := by omega
        by_cases c2 : r % 2 = 0
        · simp (disch := omega) only [bI_some, bV_some, bR_some, bL_some, ob_some, cd_t, cd_f, cd_d, okO_setI, okA_setI, okL_setI, aLen_setI, hR_setI, hI_setI, Bool.true_and, Bool.and_true, Bool.and_self, Option.isNone_some, Option.isSome_some, Option.isNone_none, Option.isSome_none, okO_chI, okA_chI, okL_chI, aLen_chI, hR_chI, ↓reduceIte, not_true_eq_false, not_false_eq_true, eq_self, c10, Nat.zero_add, nI_add, litA, litB, litM, nI_mul, nI_leI, nI_ltI, nI_eq, litLe, litLe2, litLt, litLt2, litEq, litEq2, in_nI, lit_in, nI_clamp, lit_cl, if_pos, if_neg, N124, N125, bI1, hm, ha, c0, hr2, c2]
        · have c3 : r % 2 = 1 := by omega
          simp (disch := omega) only [bI_some, bV_some, bR_some, bL_some, ob_some, cd_t, cd_f, cd_d, okO_setI, okA_setI, okL_setI, aLen_setI, hR_setI, hI_setI, Bool.true_and, Bool.and_true, Bool.and_self, Option.isNone_some, Option.isSome_some, Option.isNone_none, Option.isSome_none, okO_chI, okA_chI, okL_chI, aLen_chI, hR_chI, ↓reduceIte, not_true_eq_false, not_false_eq_true, eq_self, c10, Nat.zero_add, nI_add, litA, litB, litM, nI_mul, nI_leI, nI_ltI, nI_eq, litLe, litLe2, litLt, litLt2, litEq, litEq2, in_nI, lit_in, nI_clamp, lit_cl, if_pos, if_neg, N124, N125, bI1, hm, ha, c0, hr2, c3]
  · rw [E126_16]
    cases any with
    | false => simp (disch := omega) only [bI_some, bV_some, bR_some, bL_some, ob_some, cd_t, cd_f, cd_d, okO_setI, okA_setI, okL_setI, aLen_setI, hR_setI, hI_setI, Bool.true_and, Bool.and_true, Bool.and_self, Option.isNone_some, Option.isSome_some, Option.isNone_none, Option.isSome_none, okO_chI, okA_chI, okL_chI, aLen_chI, hR_chI, ↓reduceIte, not_true_eq_false, not_false_eq_true, eq_self, c10, Nat.zero_add, nI_add, litA, litB, litM, nI_mul, nI_leI, nI_ltI, nI_eq, litLe, litLe2, litLt, litLt2, litEq, litEq2, in_nI, lit_in, nI_clamp, lit_cl, if_pos, if_neg, bI1, Bool.false_eq_true, z1]
    | true => simp (disch := omega) only [bI_some, bV_some, bR_some, bL_some, ob_some, cd_t, cd_f, cd_d, okO_setI, okA_setI, okL_setI, aLen_setI, hR_setI, hI_setI, Bool.true_and, Bool.and_true, Bool.and_self, Option.isNone_some, Option.isSome_some, Option.isNone_none, Option.isSome_none, okO_chI, okA_chI, okL_chI, aLen_chI, hR_chI, ↓reduceIte, not_true_eq_false, not_false_eq_true, eq_self, c10, Nat.zero_add, nI_add, litA, litB, litM, nI_mul, nI_leI, nI_ltI, nI_eq, litLe, litLe2, litLt, litLt2, litEq, litEq2, in_nI, lit_in, nI_clamp, lit_cl, if_pos, if_neg, bI1, z3]
  · unfold nkM
    cases any <;> rfl
theorem P24 (x y z : Int32) : PrL Rel 24 126 [rz_i x, rz_i y, rz_i (if z = 0 then 0 else 1)] := by
  intro h r
  obtain ⟨rb, dr, jd, w, r1, r2, r3, r4, r5⟩ := id r
  have hz : ∃ any : Bool, (if z = 0 then (0 : Int32) else 1) = bI1 any := by
    by_cases c : z = 0
    · exact ⟨false, by rw [if_pos c]; rfl⟩
    · exact ⟨true, by rw [if_neg c]; rfl⟩
  obtain ⟨any, hz⟩ := hz
  rw [hz]
  by_cases hx : 1 ≤ x ∧ x ≤ 12
  · have h1 := Int32.not_lt.mpr hx.1
    have h2 := Int32.not_lt.mpr hx.2
    by_cases hy : 1 ≤ y ∧ y ≤ 16
    · have h3 := Int32.not_lt.mpr hy.1
      obtain ⟨n, hn, rfl⟩ := nI_of2 (x := x) (M := 12) (n := 12) rfl (fun q => h1 (Int32.lt_trans q (by decide))) hx.2
      obtain ⟨k, hk, rfl⟩ := nI_of2 (x := y) (M := 16) (n := 16) rfl (fun q => h3 (Int32.lt_trans q (by decide))) hy.2
      have h0 : 0 < n := (nI_leI (a := 1) (b := n) (by omega) (by omega)).mp hx.1
      obtain ⟨q1, q2⟩ := nk_ck n (by omega) h0 k (by omega)
      have eq : nkC n (nI k) any = nkM n (nI k) any := by cases any; exact q2; exact q1
      refine ⟨nkC n (nI k) any, h, h, ?_, ?_, (WMd w).1, r⟩
      · rw [show DD = 95 + 4 + 1 from rfl, E24]
        cases any with
        | false => simp only [bI_some, bV_some, bR_some, bL_some, ob_some, cd_t, cd_f, cd_d, okO_setI, okA_setI, okL_setI, aLen_setI, hR_setI, hI_setI, Bool.true_and, Bool.and_true, Bool.and_self, Option.isNone_some, Option.isSome_some, Option.isNone_none, Option.isSome_none, okO_chI, okA_chI, okL_chI, aLen_chI, hR_chI, ↓reduceIte, not_true_eq_false, not_false_eq_true, eq_self, c10, if_neg h1, if_neg h2, if_neg h3, if_pos hy.2, bI1, Bool.false_eq_true, N246 95 h h0 hn]
        | true => simp only [bI_some, bV_some, bR_some, bL_some, ob_some, cd_t, cd_f, cd_d, okO_setI, okA_setI, okL_setI, aLen_setI, hR_setI, hI_setI, Bool.true_and, Bool.and_true, Bool.and_self, Option.isNone_some, Option.isSome_some, Option.isNone_none, Option.isSome_none, okO_chI, okA_chI, okL_chI, aLen_chI, hR_chI, ↓reduceIte, not_true_eq_false, not_false_eq_true, eq_self, c10, if_neg h1, if_neg h2, if_neg h3, if_pos hy.2, bI1, N247 95 h h0 hn]
      · rw [show DD = 98 + 1 + 1 from rfl, E126, eq]
        simp only [bI_some, bV_some, bR_some, bL_some, ob_some, cd_t, cd_f, cd_d, okO_setI, okA_setI, okL_setI, aLen_setI, hR_setI, hI_setI, Bool.true_and, Bool.and_true, Bool.and_self, Option.isNone_some, Option.isSome_some, Option.isNone_none, Option.isSome_none, okO_chI, okA_chI, okL_chI, aLen_chI, hR_chI, ↓reduceIte, not_true_eq_false, not_false_eq_true, eq_self, c10, S33, if_pos hx, if_pos hy]
        exact N126 98 h h0 hn (nI k) any
    · refine ⟨Int32.toInt64 (-1), h, h, ?_, ?_, (WMd w).1, r⟩
      · rw [show DD = 99 + 1 from rfl, E24]
        by_cases h3 : y < 1
        · simp only [bI_some, bV_some, bR_some, bL_some, ob_some, cd_t, cd_f, cd_d, okO_setI, okA_setI, okL_setI, aLen_setI, hR_setI, hI_setI, Bool.true_and, Bool.and_true, Bool.and_self, Option.isNone_some, Option.isSome_some, Option.isNone_none, Option.isSome_none, okO_chI, okA_chI, okL_chI, aLen_chI, hR_chI, ↓reduceIte, not_true_eq_false, not_false_eq_true, eq_self, c10, if_neg h1, if_neg h2, if_pos h3]
        · have h4 : ¬ y ≤ 16 := fun q => hy ⟨Int32.not_lt.mp h3, q⟩
          simp only [bI_some, bV_some, bR_some, bL_some, ob_some, cd_t, cd_f, cd_d, okO_setI, okA_setI, okL_setI, aLen_setI, hR_setI, hI_setI, Bool.true_and, Bool.and_true, Bool.and_self, Option.isNone_some, Option.isSome_some, Option.isNone_none, Option.isSome_none, okO_chI, okA_chI, okL_chI, aLen_chI, hR_chI, ↓reduceIte, not_true_eq_false, not_false_eq_true, eq_self, c10, if_neg h1, if_neg h2, if_neg h3, if_neg h4]
      · rw [show DD = 99 + 1 from rfl, E126]
        simp only [bI_some, bV_some, bR_some, bL_some, ob_some, cd_t, cd_f, cd_d, okO_setI, okA_setI, okL_setI, aLen_setI, hR_setI, hI_setI, Bool.true_and, Bool.and_true, Bool.and_self, Option.isNone_some, Option.isSome_some, Option.isNone_none, Option.isSome_none, okO_chI, okA_chI, okL_chI, aLen_chI, hR_chI, ↓reduceIte, not_true_eq_false, not_false_eq_true, eq_self, c10, S33, if_pos hx, if_neg hy]
  · refine ⟨Int32.toInt64 (-1), h, h, ?_, ?_, (WMd w).1, r⟩
    · rw [show DD = 99 + 1 from rfl, E24]
      by_cases h1 : x < 1
      · simp only [bI_some, bV_some, bR_some, bL_some, ob_some, cd_t, cd_f, cd_d, okO_setI, okA_setI, okL_setI, aLen_setI, hR_setI, hI_setI, Bool.true_and, Bool.and_true, Bool.and_self, Option.isNone_some, Option.isSome_some, Option.isNone_none, Option.isSome_none, okO_chI, okA_chI, okL_chI, aLen_chI, hR_chI, ↓reduceIte, not_true_eq_false, not_false_eq_true, eq_self, c10, if_pos h1]
      · have h2 : (12 : Int32) < x := Int32.not_le.mp fun e => hx ⟨Int32.not_lt.mp h1, e⟩
        simp only [bI_some, bV_some, bR_some, bL_some, ob_some, cd_t, cd_f, cd_d, okO_setI, okA_setI, okL_setI, aLen_setI, hR_setI, hI_setI, Bool.true_and, Bool.and_true, Bool.and_self, Option.isNone_some, Option.isSome_some, Option.isNone_none, Option.isSome_none, okO_chI, okA_chI, okL_chI, aLen_chI, hR_chI, ↓reduceIte, not_true_eq_false, not_false_eq_true, eq_self, c10, if_neg h1, if_pos h2]
    · rw [show DD = 99 + 1 from rfl, E126]
      simp only [bI_some, bV_some, bR_some, bL_some, ob_some, cd_t, cd_f, cd_d, okO_setI, okA_setI, okL_setI, aLen_setI, hR_setI, hI_setI, Bool.true_and, Bool.and_true, Bool.and_self, Option.isNone_some, Option.isSome_some, Option.isNone_none, Option.isSome_none, okO_chI, okA_chI, okL_chI, aLen_chI, hR_chI, ↓reduceIte, not_true_eq_false, not_false_eq_true, eq_self, c10, S33, if_neg hx]
