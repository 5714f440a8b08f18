/-! sets of pictures, as numbers -/
theorem bt_nI (n : Nat) {i : Nat} (hi : i < 32) : bt (nI n) i = n.testBit i := by
  show (BitVec.ofNat 32 n).getLsbD i = _
  rw [BitVec.getLsbD_ofNat]
  simp [hi]
theorem nI_or (a b : Nat) : nI a ||| nI b = nI (a ||| b) := by
  apply b_ext
  intro i hi
  rw [b_or, bt_nI _ hi, bt_nI _ hi, bt_nI _ hi, Nat.testBit_or]
theorem nI_and (a b : Nat) : nI a &&& nI b = nI (a &&& b) := by
  apply b_ext
  intro i hi
  rw [b_and, bt_nI _ hi, bt_nI _ hi, bt_nI _ hi, Nat.testBit_and]
theorem bit_nI {c : Nat} (hc : c < 32) : (1 : Int32) <<< (nI c &&& 31) = nI (2 ^ c) := by
  apply b_ext
  intro i hi
  rw [b_shl c hc 1 hi, bt_nI _ hi, show (1 : Int32) = nI 1 from rfl, bt_nI _ (by omega), Nat.testBit_two_pow]
  by_cases h : c = i
  · subst h; simp
  · by_cases h2 : c ≤ i
    · have : i - c ≠ 0 := by omega
      have e : Nat.testBit 1 (i - c) = false := by
        rw [← Bool.not_eq_true, Nat.testBit_one_eq_true_iff_self_eq_zero]; exact this
      simp [h, e]
    · simp [h, h2]
theorem nI_ushr {n k : Nat} (hk : k < 32) (hn : n < 2 ^ 32) : ((nI n).toUInt32 >>> ((nI k).toUInt32 &&& Int32.toUInt32 31)).toInt32 = nI (n >>> k) := by
  apply b_ext
  intro i hi
  rw [b_ushr k hk, bt_nI _ hi, Nat.testBit_shiftRight]
  by_cases h : k + i < 32
  · rw [bt_nI _ h]
  · rw [b_big (by omega), Nat.testBit_lt_two_pow (Nat.lt_of_lt_of_le hn (Nat.pow_le_pow_right (by omega) (by omega)))]
theorem nI_sub {a b : Nat} (h : b ≤ a) : nI a - nI b = nI (a - b) := by
  obtain ⟨c, rfl⟩ : ∃ c, a = b + c := ⟨a - b, by omega⟩
  rw [← nI_add, Nat.add_sub_cancel_left, Int32.add_comm, Int32.add_sub_cancel]
theorem nI_has {n k : Nat} (hk : k < 16) (hn : n < 2 ^ 31) : (nI n >>> (nI k &&& 31)) &&& (1 : Int32) = nI (if n.testBit k = true then 1 else 0) := by
  apply b_ext
  intro i hi
  rw [b_and, b_sshr k (by omega) _ hi, show (1 : Int32) = nI 1 from rfl, bt_nI _ hi, bt_nI _ hi]
  by_cases h0 : i = 0
  · subst h0
    rw [if_pos (by omega), bt_nI _ (by omega)]
    by_cases h : n.testBit k = true
    · simp [h]
    · simp at h; simp [h]
  · have e : Nat.testBit 1 i = false := by
      rw [← Bool.not_eq_true, Nat.testBit_one_eq_true_iff_self_eq_zero]; exact h0
    rw [e]
    by_cases h : n.testBit k = true
    · simp [h, e]
    · simp at h; simp [h]
/-- how many pictures -/
def pcn (n : Nat) : Nat := cnt (fun k => n.testBit k) 16
theorem S37 (d : Nat) (h : rz_H) {n : Nat} (hn : n < 65536) : cW (d + 1) 37 [rz_i (nI n)] h = some (rz_i (nI (pcn n)), h) := by
  rw [E37]
  refine Eq.trans (lp_i0 (fun i c => rW d 37 (4, (0, 0), [some (rz_i (nI n)), some (rz_i (nI c)), some (rz_i (nI i))], [], h)) (fun i c => if n.testBit i = true then c + 1 else c) 16 0 (fun i c hi => ?_)) ?_
  · rw [E37_4]
    by_cases hb : n.testBit i = true <;> simp (disch := omega) only [bI_some, bV_some, bR_some, bL_some, ob_some, cd_t, cd_f, cd_d, okO_setI, okA_setI, okL_setI, aLen_setI, hR_setI, hI_setI, Bool.true_and, Bool.and_true, Bool.and_self, Option.isNone_some, Option.isSome_some, Option.isNone_none, Option.isSome_none, okO_chI, okA_chI, okL_chI, aLen_chI, hR_chI, ↓reduceIte, not_true_eq_false, not_false_eq_true, eq_self, c10, Nat.zero_add, nI_add, litA, litB, litM, nI_mul, nI_leI, nI_ltI, nI_eq, litLe, litLe2, litLt, litLt2, litEq, litEq2, in_nI, lit_in, nI_clamp, lit_cl, if_pos, if_neg, nI_has, hb, Nat.add_zero, Bool.false_eq_true]
  · rw [E37_4]
    simp (disch := omega) only [bI_some, bV_some, bR_some, bL_some, ob_some, cd_t, cd_f, cd_d, okO_setI, okA_setI, okL_setI, aLen_setI, hR_setI, hI_setI, Bool.true_and, Bool.and_true, Bool.and_self, Option.isNone_some, Option.isSome_some, Option.isNone_none, Option.isSome_none, okO_chI, okA_chI, okL_chI, aLen_chI, hR_chI, ↓reduceIte, not_true_eq_false, not_false_eq_true, eq_self, c10, Nat.zero_add, nI_add, litA, litB, litM, nI_mul, nI_leI, nI_ltI, nI_eq, litLe, litLe2, litLt, litLt2, litEq, litEq2, in_nI, lit_in, nI_clamp, lit_cl, if_pos, if_neg]
    rfl
/-- the class's way to count -/
def bcN (n : Nat) : Nat :=
  let a := n - ((n >>> 1) &&& 1431655765)
  let b := (a &&& 858993459) + ((a >>> 2) &&& 858993459)
  let c := (b + (b >>> 4)) &&& 252645135
  let e := c + (c >>> 8)
  (e + (e >>> 16)) &&& 63
theorem shr_le (a k : Nat) : a >>> k ≤ a := by
  rw [Nat.shiftRight_eq_div_pow]; exact Nat.div_le_self _ _
theorem S275a (d : Nat) (h : rz_H) {n : Nat} (hn : n < 65536) : cW (d + 1) 275 [rz_i (nI n)] h = some (rz_i (nI (bcN n)), h) := by
  have h1 : (n >>> 1) &&& 1431655765 ≤ n := Nat.le_trans Nat.and_le_left (shr_le n 1)
  have a0 : ((nI n).toUInt32 >>> ((1 : Int32).toUInt32 &&& Int32.toUInt32 31)).toInt32 = nI (n >>> 1) := nI_ushr (k := 1) (by omega) (by omega)
  have a1 : nI n - (nI (n >>> 1) &&& (1431655765 : Int32)) = nI (n - ((n >>> 1) &&& 1431655765)) := by
    rw [show (1431655765 : Int32) = nI 1431655765 from rfl, nI_and, nI_sub h1]
  unfold bcN
  rw [E275]
  simp only [a0, a1]
  generalize ha : n - ((n >>> 1) &&& 1431655765) = a
  have la : a < 65536 := by omega
  have b0 : ((nI a).toUInt32 >>> ((2 : Int32).toUInt32 &&& Int32.toUInt32 31)).toInt32 = nI (a >>> 2) := nI_ushr (k := 2) (by omega) (by omega)
  have b1 : (nI a &&& (858993459 : Int32)) + (nI (a >>> 2) &&& (858993459 : Int32)) = nI ((a &&& 858993459) + ((a >>> 2) &&& 858993459)) := by
    rw [show (858993459 : Int32) = nI 858993459 from rfl, nI_and, nI_and, nI_add]
  simp only [b0, b1]
  have lb : (a &&& 858993459) + ((a >>> 2) &&& 858993459) < 131072 := by
    have := Nat.and_le_left (n := a) (m := 858993459)
    have := Nat.le_trans (Nat.and_le_left (n := a >>> 2) (m := 858993459)) (shr_le a 2)
    omega
  generalize (a &&& 858993459) + ((a >>> 2) &&& 858993459) = b at lb
  have c0 : ((nI b).toUInt32 >>> ((4 : Int32).toUInt32 &&& Int32.toUInt32 31)).toInt32 = nI (b >>> 4) := nI_ushr (k := 4) (by omega) (by omega)
  have c1 : (nI b + nI (b >>> 4)) &&& (252645135 : Int32) = nI ((b + (b >>> 4)) &&& 252645135) := by
    rw [show (252645135 : Int32) = nI 252645135 from rfl, nI_add, nI_and]
  simp only [c0, c1]
  have lc : (b + (b >>> 4)) &&& 252645135 < 262144 := by
    have := Nat.and_le_left (n := b + (b >>> 4)) (m := 252645135)
    have := shr_le b 4
    omega
  generalize (b + (b >>> 4)) &&& 252645135 = c at lc
  have e0 : ((nI c).toUInt32 >>> ((8 : Int32).toUInt32 &&& Int32.toUInt32 31)).toInt32 = nI (c >>> 8) := nI_ushr (k := 8) (by omega) (by omega)
  simp only [e0, nI_add]
  have le : c + c >>> 8 < 524288 := by
    have := shr_le c 8
    omega
  generalize c + c >>> 8 = e at le
  have f0 : ((nI e).toUInt32 >>> ((16 : Int32).toUInt32 &&& Int32.toUInt32 31)).toInt32 = nI (e >>> 16) := nI_ushr (k := 16) (by omega) (by omega)
  simp only [f0, nI_add]
  rw [show (63 : Int32) = nI 63 from rfl, nI_and]
def al2 (p : Nat → Bool) : Nat → Bool
  | 0 => true
  | n + 1 => p n && al2 p n
theorem al2_at {p : Nat → Bool} : ∀ {n : Nat}, al2 p n = true → ∀ i, i < n → p i = true
  | 0, _, i, hi => absurd hi (by omega)
  | n + 1, h, i, hi => by
    have h := (Bool.and_eq_true _ _).mp h
    by_cases e : i = n
    · rw [e]; exact h.1
    · exact al2_at h.2 i (by omega)
def pc8 (n : Nat) : Nat := (n &&& 1) + ((n >>> 1) &&& 1) + ((n >>> 2) &&& 1) + ((n >>> 3) &&& 1) + ((n >>> 4) &&& 1) + ((n >>> 5) &&& 1) + ((n >>> 6) &&& 1) + ((n >>> 7) &&& 1)
set_option maxRecDepth 100000 in
theorem bc_ck : al2 (fun a => al2 (fun b => Nat.beq (bcN (256 * a + b)) (pc8 a + pc8 b)) 256) 256 = true := by decide +kernel
theorem tb_dm (n k c : Nat) : (if n.testBit k = true then c + 1 else c) = c + n / 2 ^ k % 2 := by
  have h := Nat.toNat_testBit n k
  by_cases hb : n.testBit k = true
  · rw [if_pos hb, ← h, hb]; rfl
  · rw [if_neg hb, ← h, Bool.not_eq_true _ |>.mp hb]; rfl
theorem pcn_sum (n : Nat) : pcn n = n / 1 % 2 + n / 2 % 2 + n / 4 % 2 + n / 8 % 2 + n / 16 % 2 + n / 32 % 2 + n / 64 % 2 + n / 128 % 2 + n / 256 % 2 + n / 512 % 2 + n / 1024 % 2 + n / 2048 % 2 + n / 4096 % 2 + n / 8192 % 2 + n / 16384 % 2 + n / 32768 % 2 := by
  unfold pcn
  simp only [cnt_s, tb_dm]
  show 0 + _ + _ + _ + _ + _ + _ + _ + _ + _ + _ + _ + _ + _ + _ + _ + _ = _
  rw [Nat.zero_add]
theorem pc8_sum (n : Nat) : pc8 n = n / 1 % 2 + n / 2 % 2 + n / 4 % 2 + n / 8 % 2 + n / 16 % 2 + n / 32 % 2 + n / 64 % 2 + n / 128 % 2 := by
  unfold pc8
  simp only [Nat.and_one_is_mod, Nat.shiftRight_eq_div_pow, Nat.div_one]
  skip
theorem bc_at {a b : Nat} (ha : a < 256) (hb : b < 256) : bcN (256 * a + b) = pc8 a + pc8 b := by
  have h0 := al2_at (p := fun a => al2 (fun b => Nat.beq (bcN (256 * a + b)) (pc8 a + pc8 b)) 256) (n := 256) bc_ck a ha
  have h1 := al2_at (p := fun b => Nat.beq (bcN (256 * a + b)) (pc8 a + pc8 b)) (n := 256) h0 b hb
  exact Nat.eq_of_beq_eq_true h1
theorem pc_lo (n : Nat) : pc8 (n % 256) = n / 1 % 2 + n / 2 % 2 + n / 4 % 2 + n / 8 % 2 + n / 16 % 2 + n / 32 % 2 + n / 64 % 2 + n / 128 % 2 := by
  have e0 : n % 256 / 1 % 2 = n / 1 % 2 := by omega
  have e1 : n % 256 / 2 % 2 = n / 2 % 2 := by omega
  have e2 : n % 256 / 4 % 2 = n / 4 % 2 := by omega
  have e3 : n % 256 / 8 % 2 = n / 8 % 2 := by omega
  have e4 : n % 256 / 16 % 2 = n / 16 % 2 := by omega
  have e5 : n % 256 / 32 % 2 = n / 32 % 2 := by omega
  have e6 : n % 256 / 64 % 2 = n / 64 % 2 := by omega
  have e7 : n % 256 / 128 % 2 = n / 128 % 2 := by omega
  rw [pc8_sum, e0, e1, e2, e3, e4, e5, e6, e7]
theorem pc_hi (n : Nat) : pc8 (n / 256) = n / 256 % 2 + n / 512 % 2 + n / 1024 % 2 + n / 2048 % 2 + n / 4096 % 2 + n / 8192 % 2 + n / 16384 % 2 + n / 32768 % 2 := by
  rw [pc8_sum]
  simp only [Nat.div_div_eq_div_mul, Nat.reduceMul]
theorem bc_pc {n : Nat} (hn : n < 65536) : bcN n = pcn n := by
  have h1 := bc_at (a := n / 256) (b := n % 256) (by omega) (by omega)
  rw [show 256 * (n / 256) + n % 256 = n by omega] at h1
  rw [h1, pc_lo, pc_hi, pcn_sum, Nat.add_comm]
  simp only [Nat.add_assoc]
theorem S275 (d : Nat) (h : rz_H) {n : Nat} (hn : n < 65536) : cW (d + 1) 275 [rz_i (nI n)] h = some (rz_i (nI (pcn n)), h) := by
  rw [S275a d h hn, bc_pc hn]
theorem pcn_le (n : Nat) : pcn n ≤ 16 := cnt_le _ 16
theorem itr_inv {σ : Type} {f : Nat → σ → σ} (I : σ → Prop) : ∀ (c i : Nat) (s : σ), (∀ j t, I t → I (f j t)) → I s → I (itr f i c s)
  | 0, _, _, _, h => h
  | c + 1, i, s, hs, h => itr_inv I c (i + 1) (f i s) hs (hs i s h)
theorem or_lt {a b : Nat} (ha : a < 65536) (hb : b < 65536) : a ||| b < 65536 := Nat.or_lt_two_pow (n := 16) ha hb
theorem pw_lt {c : Nat} (hc : c < 16) : 2 ^ c < 65536 := (Nat.pow_lt_pow_right (a := 2) (by omega) hc : 2 ^ c < 2 ^ 16)
