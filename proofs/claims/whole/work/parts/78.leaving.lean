/-! who leaves -/
theorem sub_le {a b c : Nat} (ha : a < 1000) (hb : b < 1000) (hc : c < 1000) : nI a - nI b ≤ nI c ↔ a - b ≤ c := by
  rw [sub_z, Int32.le_iff_toInt_le, toInt_ofI (by omega) (by omega), nI_toInt (by omega)]
  omega
theorem mx0_sub {a b : Nat} (ha : a < 1000) (hb : b < 1000) : mx 0 (nI a - nI b) = nI (a - b) := by
  unfold mx
  by_cases h : b < a
  · have h0 : (0 : Int32) < nI (a - b) := nI_lt (a := 0) (b := a - b) (by omega) (by omega)
    rw [nI_sub (by omega), if_pos h0]
  · rw [if_neg (fun q => by
      rw [sub_z, Int32.lt_iff_toInt_lt, toInt_ofI (by omega) (by omega), Int32.toInt_zero] at q
      omega), show a - b = 0 by omega]
    rfl
theorem ne_m1 {i : Nat} (hi : i < 1000) : ¬ nI i = (-1) := fun e => by
  have := congrArg Int32.toInt e
  rw [nI_toInt (by omega)] at this
  exact absurd this (by have : (-1 : Int32).toInt = -1 := rfl; omega)
def oI (o : Option Nat) : Int32 := match o with
  | none => -1
  | some i => nI i
def ear (t : Nat → Nat) (i : Nat) : Nat := t (2 * i) - t (2 * i + 1)
def lat (t : Nat → Nat) (i : Nat) : Nat := t (2 * i) + t (2 * i + 1)
abbrev can (t : Nat → Nat) (tk G i : Nat) : Prop := G.testBit i = false ∧ ear t i ≤ tk ∧ tk ≤ lat t i
def pkf (t : Nat → Nat) (tk G i : Nat) (o : Option Nat) : Option Nat := if can t tk G i then (match o with
  | none => some i
  | some c => if lat t c ≤ lat t i then some c else some i) else o
def pko (t : Nat → Nat) (n tk G : Nat) : Option Nat := itr (pkf t tk G) 0 n none
def nxG (t : Nat → Nat) (n tk G : Nat) : Nat := match pko t n tk G with
  | none => G
  | some i => G ||| 2 ^ i
def Gs (t : Nat → Nat) (n tk : Nat) : Nat := itr (nxG t n) 0 tk 0
theorem Gs_s (t : Nat → Nat) (n tk : Nat) : Gs t n (tk + 1) = nxG t n tk (Gs t n tk) := by
  unfold Gs
  rw [itr_succ, Nat.zero_add]
theorem pko_in (t : Nat → Nat) (tk G : Nat) : ∀ n c, itr (pkf t tk G) 0 n none = some c → c < n ∧ can t tk G c
  | 0, c, h => by exact absurd h (by simp [itr])
  | n + 1, c, h => by
    rw [itr_succ, Nat.zero_add] at h
    have ih := pko_in t tk G n
    generalize itr (pkf t tk G) 0 n none = o at h ih
    unfold pkf at h
    by_cases hc : can t tk G n
    · rw [if_pos hc] at h
      cases o with
      | none =>
        have : n = c := by simpa using h
        subst this
        exact ⟨by omega, hc⟩
      | some b =>
        dsimp only at h
        by_cases hl : lat t b ≤ lat t n
        · rw [if_pos hl] at h
          have : b = c := by simpa using h
          subst this
          have := ih b rfl
          exact ⟨by omega, this.2⟩
        · rw [if_neg hl] at h
          have : n = c := by simpa using h
          subst this
          exact ⟨by omega, hc⟩
    · rw [if_neg hc] at h
      have := ih c h
      exact ⟨by omega, this.2⟩
theorem Gs_lt (t : Nat → Nat) {n : Nat} (hn : n ≤ 10) : ∀ tk, Gs t n tk < 65536
  | 0 => by show 0 < 65536; omega
  | tk + 1 => by
    rw [Gs_s]
    unfold nxG
    have ih := Gs_lt t hn tk
    rcases hp : pko t n tk (Gs t n tk) with _ | i
    · exact ih
    · have := (pko_in t tk (Gs t n tk) n i hp).1
      exact or_lt ih (pw_lt (by omega))
theorem cnt_add {p q : Nat → Bool} {i : Nat} (hp : p i = false) (hq : ∀ k, q k = (p k || decide (k = i))) : ∀ n, cnt q n = cnt p n + if i < n then 1 else 0
  | 0 => rfl
  | n + 1 => by
    rw [cnt_s, cnt_s, cnt_add hp hq n, hq n]
    by_cases e : n = i
    · subst e
      simp [hp]
    · by_cases h : p n = true
      · simp [h]
        by_cases h2 : i < n
        · rw [if_pos h2, if_pos (by omega)]
        · rw [if_neg h2, if_neg (by omega)]
      · simp [h, e]
        by_cases h2 : i < n
        · rw [if_pos h2, if_pos (by omega)]
        · rw [if_neg h2, if_neg (by omega)]
theorem pcn_add {G i : Nat} (hi : i < 16) (hb : G.testBit i = false) : pcn (G ||| 2 ^ i) = pcn G + 1 := by
  unfold pcn
  rw [cnt_add (p := fun k => G.testBit k) (i := i) hb (fun k => by
    rw [Nat.testBit_or, Nat.testBit_two_pow]
    by_cases h : i = k
    · subst h; simp
    · simp [h, show k ≠ i from fun e => h e.symm]) 16, if_pos hi]
theorem T243 {rb dr : Nat} {jd : Option Nat} {h : rz_H} (w : Wf rb dr jd h) {N : Nat} {t : Nat → Nat} (T : Tq h N t) {n : Nat} (hn : 2 * n ≤ N) (h10 : n ≤ 10) (d : Nat) : ∃ k', cW (d + 2) 243 [rz_r (some 103), rz_r (some 1), rz_i (nI n)] h = some (rz_i (bI1 (fst (fun i => decide (50 < t (2 * i + 1))) 0 n).isNone), k') ∧ Wf rb dr jd k' ∧ Kp h k' ∧ ((fst (fun i => decide (50 < t (2 * i + 1))) 0 n) = none → (∀ i, i < n → hI k' 107 i = nI (ear t i)) ∧ ∀ i, i < n → hI k' 108 i = nI (lat t i)) := by
  have hN := T.1.1
  rw [E243]
  have stp : ∀ i k', i < n → Wf rb dr jd k' → Kp h k' → ∀ j : Option rz_V × Option rz_V, rW (d + 1) 243 (2, (0, 0), [some (rz_r (some 103)), some (rz_r (some 1)), some (rz_i (nI n)), some (rz_i (nI i)), j.1, j.2], [], k') = if 50 < t (2 * i + 1) then some (rz_i 0, k') else rW (d + 1) 243 (2, (0, 0), [some (rz_r (some 103)), some (rz_r (some 1)), some (rz_i (nI n)), some (rz_i (nI (i + 1))), some (rz_i (nI (t (2 * i)))), some (rz_i (nI (t (2 * i + 1))))], [], setI (setI k' 107 i (nI (ear t i))) 108 i (nI (lat t i))) := fun i k' hi w' p' j => by
    have at0 := T269 w' (T.kp p') (i := 2 * i) (by omega)
    have at1 := T269 w' (T.kp p') (i := 2 * i + 1) (by omega)
    have b0 := (T.1.2 (2 * i) (by omega)).1
    have b1 := (T.1.2 (2 * i + 1) (by omega)).1
    have m0 := mx0_sub (a := t (2 * i)) (b := t (2 * i + 1)) (by omega) (by omega)
    rw [E243_2]
    by_cases hb : 50 < t (2 * i + 1)
    · simp (disch := omega) only [bI_some, bV_some, bR_some, bL_some, ob_some, cd_t, cd_f, cd_d, okO_setI, okA_setI, okL_setI, aLen_setI, hR_setI, hI_setI, Bool.true_and, Bool.and_true, Bool.and_self, Option.isNone_some, Option.isSome_some, Option.isNone_none, Option.isSome_none, okO_chI, okA_chI, okL_chI, aLen_chI, hR_chI, ↓reduceIte, not_true_eq_false, not_false_eq_true, eq_self, c10, Nat.zero_add, nI_add, litA, litB, litM, nI_mul, nI_leI, nI_ltI, nI_eq, litLe, litLe2, litLt, litLt2, litEq, litEq2, in_nI, lit_in, nI_clamp, lit_cl, if_pos, if_neg, WTp w', at0, at1, hb]
    · simp (disch := omega) only [bI_some, bV_some, bR_some, bL_some, ob_some, cd_t, cd_f, cd_d, okO_setI, okA_setI, okL_setI, aLen_setI, hR_setI, hI_setI, Bool.true_and, Bool.and_true, Bool.and_self, Option.isNone_some, Option.isSome_some, Option.isNone_none, Option.isSome_none, okO_chI, okA_chI, okL_chI, aLen_chI, hR_chI, ↓reduceIte, not_true_eq_false, not_false_eq_true, eq_self, c10, Nat.zero_add, nI_add, litA, litB, litM, nI_mul, nI_leI, nI_ltI, nI_eq, litLe, litLe2, litLt, litLt2, litEq, litEq2, in_nI, lit_in, nI_clamp, lit_cl, if_pos, if_neg, WTp w', WRi w', at0, at1, hb, T277, m0]
      rfl
  have go : ∀ m, m ≤ n → (∀ i, i < m → ¬ 50 < t (2 * i + 1)) → ∃ k', ∃ j : Option rz_V × Option rz_V, rW (d + 1) 243 (2, (0, 0), [some (rz_r (some 103)), some (rz_r (some 1)), some (rz_i (nI n)), some (rz_i (nI 0)), none, none], [], h) = rW (d + 1) 243 (2, (0, 0), [some (rz_r (some 103)), some (rz_r (some 1)), some (rz_i (nI n)), some (rz_i (nI m)), j.1, j.2], [], k') ∧ Wf rb dr jd k' ∧ Kp h k' ∧ (∀ i, i < m → hI k' 107 i = nI (ear t i)) ∧ ∀ i, i < m → hI k' 108 i = nI (lat t i) := by
    intro m
    induction m with
    | zero => exact fun _ _ => ⟨h, (none, none), rfl, w, Kp.refl h, fun i hi => absurd hi (by omega), fun i hi => absurd hi (by omega)⟩
    | succ m ih =>
      intro hm hb
      obtain ⟨k', j, e, w', p', u1, u2⟩ := ih (by omega) (fun i hi => hb i (by omega))
      refine ⟨setI (setI k' 107 m (nI (ear t m))) 108 m (nI (lat t m)), (some (rz_i (nI (t (2 * m)))), some (rz_i (nI (t (2 * m + 1))))), ?_, w', (p'.set _ _ (by omega)).set _ _ (by omega), fun i hi => ?_, fun i hi => ?_⟩
      · rw [e, stp m k' (by omega) w' p' j, if_neg (hb m (by omega))]
      · rw [hI_setI, if_neg (by omega), hI_setI]
        by_cases x : i = m
        · subst x; rw [if_pos ⟨rfl, rfl⟩]
        · rw [if_neg (fun q => x q.2)]; exact u1 i (by omega)
      · rw [hI_setI]
        by_cases x : i = m
        · subst x; rw [if_pos ⟨rfl, rfl⟩]
        · rw [if_neg (fun q => x q.2), hI_setI, if_neg (by omega)]; exact u2 i (by omega)
  rcases hf : fst (fun i => decide (50 < t (2 * i + 1))) 0 n with _ | m
  · obtain ⟨k', j, e, w', p', u1, u2⟩ := go n (Nat.le_refl _) (fun i hi => of_decide_eq_false (fst_none n 0 hf i (by omega) (by omega)))
    refine ⟨k', ?_, w', p', fun _ => ⟨u1, u2⟩⟩
    refine Eq.trans e ?_
    rw [E243_2]
    simp (disch := omega) only [bI_some, bV_some, bR_some, bL_some, ob_some, cd_t, cd_f, cd_d, okO_setI, okA_setI, okL_setI, aLen_setI, hR_setI, hI_setI, Bool.true_and, Bool.and_true, Bool.and_self, Option.isNone_some, Option.isSome_some, Option.isNone_none, Option.isSome_none, okO_chI, okA_chI, okL_chI, aLen_chI, hR_chI, ↓reduceIte, not_true_eq_false, not_false_eq_true, eq_self, c10, Nat.zero_add, nI_add, litA, litB, litM, nI_mul, nI_leI, nI_ltI, nI_eq, litLe, litLe2, litLt, litLt2, litEq, litEq2, in_nI, lit_in, nI_clamp, lit_cl, if_pos, if_neg]
    rfl
  · obtain ⟨b1, b2, b3, b4⟩ := fst_some n 0 m hf
    obtain ⟨k', j, e, w', p', u1, u2⟩ := go m (by omega) (fun i hi => of_decide_eq_false (b4 i (by omega) hi))
    refine ⟨k', ?_, w', p', fun x => absurd x (by simp)⟩
    refine Eq.trans e ?_
    rw [stp m k' (by omega) w' p' j, if_pos (of_decide_eq_true b3)]
    rfl
theorem T244 {rb dr : Nat} {jd : Option Nat} {h : rz_H} (w : Wf rb dr jd h) {t : Nat → Nat} {n : Nat} (ht : ∀ i, i < 2 * n → t i < 256) (h10 : n ≤ 10) (u1 : ∀ i, i < n → hI h 107 i = nI (ear t i)) (u2 : ∀ i, i < n → hI h 108 i = nI (lat t i)) (d : Nat) : ∃ k', cW (d + 1) 244 [rz_r (some 103), rz_i (nI n)] h = some (rz_i (nI (pcn (Gs t n 306))), k') ∧ Wf rb dr jd k' ∧ Kp h k' := by
  have hb : ∀ i, i < n → ear t i < 256 ∧ lat t i < 512 := fun i hi => by
    have := ht (2 * i) (by omega)
    have := ht (2 * i + 1) (by omega)
    unfold ear lat
    omega
  rw [E244]
  obtain ⟨k', j, e, w', p', -, -⟩ := lp_h (fun tk k' (j : Option rz_V × Option rz_V × Option rz_V) => rW d 244 (4, (0, 0), [some (rz_r (some 103)), some (rz_i (nI n)), some (rz_i (nI (pcn (Gs t n tk)))), some (rz_i (nI tk)), j.1, j.2.1, j.2.2], [], k')) (fun tk k' => Wf rb dr jd k' ∧ Kp h k' ∧ (∀ i, i < n → hI k' 107 i = nI (ear t i)) ∧ ∀ i, i < n → hI k' 108 i = if (Gs t n tk).testBit i = true then -1 else nI (lat t i)) 306 (fun tk k' j htk ⟨w', p', v1, v2⟩ => by
    have inn := lp_ji (fun i o j => rW d 244 (11, (0, 0), [some (rz_r (some 103)), some (rz_i (nI n)), some (rz_i (nI (pcn (Gs t n tk)))), some (rz_i (nI tk)), some (rz_i (oI o)), some (rz_i (nI i)), j], [], k')) (pkf t tk (Gs t n tk)) (fun i o => ∀ c, o = some c → c < i ∧ can t tk (Gs t n tk) c) n (fun i o j hi ho => by
      have hbi := hb i hi
      have x1 := v1 i hi
      have x2 := v2 i hi
      have m1lt : (-1 : Int32) < nI tk := Int32.lt_of_lt_of_le (by decide) (nI_pos' (by omega))
      refine ⟨?_, fun c hc => ?_⟩
      · by_cases hc : can t tk (Gs t n tk) i
        · have hc' := hc
          obtain ⟨a1, a2, a3⟩ := hc'
          rw [a1, if_neg (by simp)] at x2
          refine ⟨some (rz_i 1), ?_⟩
          rw [E244_11]
          unfold pkf
          rw [if_pos hc]
          cases o with
          | none => simp (disch := omega) only [bI_some, bV_some, bR_some, bL_some, ob_some, cd_t, cd_f, cd_d, okO_setI, okA_setI, okL_setI, aLen_setI, hR_setI, hI_setI, Bool.true_and, Bool.and_true, Bool.and_self, Option.isNone_some, Option.isSome_some, Option.isNone_none, Option.isSome_none, okO_chI, okA_chI, okL_chI, aLen_chI, hR_chI, ↓reduceIte, not_true_eq_false, not_false_eq_true, eq_self, c10, Nat.zero_add, nI_add, litA, litB, litM, nI_mul, nI_leI, nI_ltI, nI_eq, litLe, litLe2, litLt, litLt2, litEq, litEq2, in_nI, lit_in, nI_clamp, lit_cl, if_pos, if_neg, WRi w', x1, x2, oI, show (-1 : Int32) < 0 from by decide]
          | some c =>
            obtain ⟨c1, c2, c3, c4⟩ := ho c rfl
            have hbc := hb c (by omega)
            have x3 := v2 c (by omega)
            rw [c2, if_neg (by simp)] at x3
            by_cases hl : lat t c ≤ lat t i <;> simp (disch := omega) only [bI_some, bV_some, bR_some, bL_some, ob_some, cd_t, cd_f, cd_d, okO_setI, okA_setI, okL_setI, aLen_setI, hR_setI, hI_setI, Bool.true_and, Bool.and_true, Bool.and_self, Option.isNone_some, Option.isSome_some, Option.isNone_none, Option.isSome_none, okO_chI, okA_chI, okL_chI, aLen_chI, hR_chI, ↓reduceIte, not_true_eq_false, not_false_eq_true, eq_self, c10, Nat.zero_add, nI_add, litA, litB, litM, nI_mul, nI_leI, nI_ltI, nI_eq, litLe, litLe2, litLt, litLt2, litEq, litEq2, in_nI, lit_in, nI_clamp, lit_cl, if_pos, if_neg, WRi w', x1, x2, x3, oI, hl]
        · refine ⟨some (rz_i 0), ?_⟩
          rw [E244_11]
          unfold pkf
          rw [if_neg hc]
          by_cases hE : ear t i ≤ tk
          · have hlt : (if (Gs t n tk).testBit i = true then (-1 : Int32) else nI (lat t i)) < nI tk := by
              by_cases hg : (Gs t n tk).testBit i = true
              · rw [if_pos hg]; exact m1lt
              · rw [if_neg hg]
                refine nI_lt ?_ (by omega)
                refine Nat.lt_of_not_le fun q => hc ⟨by simpa using hg, hE, q⟩
            simp (disch := omega) only [bI_some, bV_some, bR_some, bL_some, ob_some, cd_t, cd_f, cd_d, okO_setI, okA_setI, okL_setI, aLen_setI, hR_setI, hI_setI, Bool.true_and, Bool.and_true, Bool.and_self, Option.isNone_some, Option.isSome_some, Option.isNone_none, Option.isSome_none, okO_chI, okA_chI, okL_chI, aLen_chI, hR_chI, ↓reduceIte, not_true_eq_false, not_false_eq_true, eq_self, c10, Nat.zero_add, nI_add, litA, litB, litM, nI_mul, nI_leI, nI_ltI, nI_eq, litLe, litLe2, litLt, litLt2, litEq, litEq2, in_nI, lit_in, nI_clamp, lit_cl, if_pos, if_neg, WRi w', x1, x2, hlt]
          · simp (disch := omega) only [bI_some, bV_some, bR_some, bL_some, ob_some, cd_t, cd_f, cd_d, okO_setI, okA_setI, okL_setI, aLen_setI, hR_setI, hI_setI, Bool.true_and, Bool.and_true, Bool.and_self, Option.isNone_some, Option.isSome_some, Option.isNone_none, Option.isSome_none, okO_chI, okA_chI, okL_chI, aLen_chI, hR_chI, ↓reduceIte, not_true_eq_false, not_false_eq_true, eq_self, c10, Nat.zero_add, nI_add, litA, litB, litM, nI_mul, nI_leI, nI_ltI, nI_eq, litLe, litLe2, litLt, litLt2, litEq, litEq2, in_nI, lit_in, nI_clamp, lit_cl, if_pos, if_neg, WRi w', x1, hE]
      · unfold pkf at hc
        by_cases hcn : can t tk (Gs t n tk) i
        · rw [if_pos hcn] at hc
          cases o with
          | none =>
            have : i = c := by simpa using hc
            subst this
            exact ⟨by omega, hcn⟩
          | some b =>
            dsimp only at hc
            by_cases hl : lat t b ≤ lat t i
            · rw [if_pos hl] at hc
              have : b = c := by simpa using hc
              subst this
              have := ho b rfl
              exact ⟨by omega, this.2⟩
            · rw [if_neg hl] at hc
              have : i = c := by simpa using hc
              subst this
              exact ⟨by omega, hcn⟩
        · rw [if_neg hcn] at hc
          have := ho c hc
          exact ⟨by omega, this.2⟩) n 0 none none (by omega) (fun c hc => absurd hc (by simp))
    obtain ⟨⟨j2, e2⟩, i2⟩ := inn
    have hG := Gs_s t n tk
    unfold nxG at hG
    rw [show itr (pkf t tk (Gs t n tk)) 0 n none = pko t n tk (Gs t n tk) from rfl] at e2 i2
    rcases hp : pko t n tk (Gs t n tk) with _ | c
    · rw [hp] at hG e2
      have hG : Gs t n (tk + 1) = Gs t n tk := hG
      refine ⟨k', (some (rz_i (-1)), some (rz_i (nI n)), none), ?_, w', p', v1, by rw [hG]; exact v2⟩
      rw [E244_4, hG]
      simp (disch := omega) only [bI_some, bV_some, bR_some, bL_some, ob_some, cd_t, cd_f, cd_d, okO_setI, okA_setI, okL_setI, aLen_setI, hR_setI, hI_setI, Bool.true_and, Bool.and_true, Bool.and_self, Option.isNone_some, Option.isSome_some, Option.isNone_none, Option.isSome_none, okO_chI, okA_chI, okL_chI, aLen_chI, hR_chI, ↓reduceIte, not_true_eq_false, not_false_eq_true, eq_self, c10, Nat.zero_add, nI_add, litA, litB, litM, nI_mul, nI_leI, nI_ltI, nI_eq, litLe, litLe2, litLt, litLt2, litEq, litEq2, in_nI, lit_in, nI_clamp, lit_cl, if_pos, if_neg]
      refine Eq.trans e2 ?_
      rw [E244_11]
      simp (disch := omega) only [bI_some, bV_some, bR_some, bL_some, ob_some, cd_t, cd_f, cd_d, okO_setI, okA_setI, okL_setI, aLen_setI, hR_setI, hI_setI, Bool.true_and, Bool.and_true, Bool.and_self, Option.isNone_some, Option.isSome_some, Option.isNone_none, Option.isSome_none, okO_chI, okA_chI, okL_chI, aLen_chI, hR_chI, ↓reduceIte, not_true_eq_false, not_false_eq_true, eq_self, c10, Nat.zero_add, nI_add, litA, litB, litM, nI_mul, nI_leI, nI_ltI, nI_eq, litLe, litLe2, litLt, litLt2, litEq, litEq2, in_nI, lit_in, nI_clamp, lit_cl, if_pos, if_neg, oI, show (-1 : Int32) < 0 from by decide]
    · rw [hp] at hG e2
      have hG : Gs t n (tk + 1) = Gs t n tk ||| 2 ^ c := hG
      obtain ⟨c1, c2, c3, c4⟩ := i2 c hp
      have hpc := pcn_add (G := Gs t n tk) (i := c) (by omega) c2
      refine ⟨setI k' 108 c (-1), (some (rz_i (nI c)), some (rz_i (nI n)), none), ?_, w', p'.set _ _ (by omega), fun i hi => ?_, fun i hi => ?_⟩
      · rw [E244_4, hG, hpc]
        simp (disch := omega) only [bI_some, bV_some, bR_some, bL_some, ob_some, cd_t, cd_f, cd_d, okO_setI, okA_setI, okL_setI, aLen_setI, hR_setI, hI_setI, Bool.true_and, Bool.and_true, Bool.and_self, Option.isNone_some, Option.isSome_some, Option.isNone_none, Option.isSome_none, okO_chI, okA_chI, okL_chI, aLen_chI, hR_chI, ↓reduceIte, not_true_eq_false, not_false_eq_true, eq_self, c10, Nat.zero_add, nI_add, litA, litB, litM, nI_mul, nI_leI, nI_ltI, nI_eq, litLe, litLe2, litLt, litLt2, litEq, litEq2, in_nI, lit_in, nI_clamp, lit_cl, if_pos, if_neg]
        refine Eq.trans e2 ?_
        rw [E244_11]
        simp (disch := omega) only [bI_some, bV_some, bR_some, bL_some, ob_some, cd_t, cd_f, cd_d, okO_setI, okA_setI, okL_setI, aLen_setI, hR_setI, hI_setI, Bool.true_and, Bool.and_true, Bool.and_self, Option.isNone_some, Option.isSome_some, Option.isNone_none, Option.isSome_none, okO_chI, okA_chI, okL_chI, aLen_chI, hR_chI, ↓reduceIte, not_true_eq_false, not_false_eq_true, eq_self, c10, Nat.zero_add, nI_add, litA, litB, litM, nI_mul, nI_leI, nI_ltI, nI_eq, litLe, litLe2, litLt, litLt2, litEq, litEq2, in_nI, lit_in, nI_clamp, lit_cl, if_pos, if_neg, oI, WRi w']
      · rw [hI_setI, if_neg (by omega)]; exact v1 i hi
      · rw [hI_setI, hG, Nat.testBit_or, Nat.testBit_two_pow]
        by_cases x : i = c
        · subst x; simp
        · rw [if_neg (fun q => x q.2), v2 i hi]
          simp [show ¬ c = i from fun e => x e.symm]) 306 0 h (none, none, none) (by omega) ⟨w, Kp.refl h, u1, fun i hi => by
    rw [u2 i hi]
    have : (Gs t n 0).testBit i = false := Nat.zero_testBit i
    rw [this]; simp⟩
  refine ⟨k', ?_, w', p'⟩
  have z : pcn (Gs t n 0) = 0 := by show pcn 0 = 0; decide
  rw [z] at e
  refine Eq.trans e ?_
  rw [E244_4]
  simp (disch := omega) only [bI_some, bV_some, bR_some, bL_some, ob_some, cd_t, cd_f, cd_d, okO_setI, okA_setI, okL_setI, aLen_setI, hR_setI, hI_setI, Bool.true_and, Bool.and_true, Bool.and_self, Option.isNone_some, Option.isSome_some, Option.isNone_none, Option.isSome_none, okO_chI, okA_chI, okL_chI, aLen_chI, hR_chI, ↓reduceIte, not_true_eq_false, not_false_eq_true, eq_self, c10, Nat.zero_add, nI_add, litA, litB, litM, nI_mul, nI_leI, nI_ltI, nI_eq, litLe, litLe2, litLt, litLt2, litEq, litEq2, in_nI, lit_in, nI_clamp, lit_cl, if_pos, if_neg]
theorem eyb_nI {n k : Nat} (hk : k < 16) (hn : n < 2 ^ 31) : eyb (nI n) k = n.testBit k := by
  unfold eyb
  rw [nI_has hk hn]
  by_cases h : n.testBit k = true
  · rw [if_pos h, h]; rfl
  · rw [if_neg h, Bool.not_eq_true _ |>.mp h]; rfl
theorem V127i {rb dr : Nat} {jd : Option Nat} {h : rz_H} (w : Wf rb dr jd h) {N : Nat} {t : Nat → Nat} (T : Tm h N t) {n : Nat} (hn : 2 * n ≤ N) (h10 : n ≤ 10) {tk G : Nat} (htk : tk < 306) (hG : G < 65536) (d : Nat) : ∃ j, rW (d + 1) 127 (45, (0, 0), [some (rz_r (some 109)), some (rz_i (nI n)), some (rz_i (nI G)), some (rz_i (nI tk)), some (rz_i (-1)), some (rz_i 0), none], [], h) = rW (d + 1) 127 (45, (0, 0), [some (rz_r (some 109)), some (rz_i (nI n)), some (rz_i (nI G)), some (rz_i (nI tk)), some (rz_i (oI (pko t n tk G))), some (rz_i (nI n)), j], [], h) := by
  have hN := T.1
  refine (lp_ji (fun i o j => rW (d + 1) 127 (45, (0, 0), [some (rz_r (some 109)), some (rz_i (nI n)), some (rz_i (nI G)), some (rz_i (nI tk)), some (rz_i (oI o)), some (rz_i (nI i)), j], [], h)) (pkf t tk G) (fun i o => ∀ c, o = some c → c < i) n (fun i o j hi ho => ?_) n 0 none none (by omega) (fun c hc => absurd hc (by simp))).1
  have at0 := T48 w T (i := 2 * i) (by omega)
  have at1 := T48 w T (i := 2 * i + 1) (by omega)
  have b0 := (T.2 (2 * i) (by omega)).1
  have b1 := (T.2 (2 * i + 1) (by omega)).1
  have eb : eyb (nI G) i = G.testBit i := eyb_nI (by omega) (by omega)
  have hs : nI (t (2 * i)) - nI (t (2 * i + 1)) ≤ nI tk ∧ nI tk ≤ nI (t (2 * i) + t (2 * i + 1)) ↔ ear t i ≤ tk ∧ tk ≤ lat t i := by
    rw [sub_le (by omega) (by omega) (by omega), nI_leI (by omega) (by omega)]
    exact Iff.rfl
  refine ⟨⟨some (rz_i (nI (t (2 * i + 1)))), ?_⟩, fun c hc => ?_⟩
  · rw [E127_45]
    unfold pkf
    by_cases hg : G.testBit i = true
    · rw [if_neg (fun q : can t tk G i => by have q1 := q.1; rw [hg] at q1; exact absurd q1 (by simp))]
      rw [hg] at eb
      simp (disch := omega) only [bI_some, bV_some, bR_some, bL_some, ob_some, cd_t, cd_f, cd_d, okO_setI, okA_setI, okL_setI, aLen_setI, hR_setI, hI_setI, Bool.true_and, Bool.and_true, Bool.and_self, Option.isNone_some, Option.isSome_some, Option.isNone_none, Option.isSome_none, okO_chI, okA_chI, okL_chI, aLen_chI, hR_chI, ↓reduceIte, not_true_eq_false, not_false_eq_true, eq_self, c10, Nat.zero_add, nI_add, litA, litB, litM, nI_mul, nI_leI, nI_ltI, nI_eq, litLe, litLe2, litLt, litLt2, litEq, litEq2, in_nI, lit_in, nI_clamp, lit_cl, if_pos, if_neg, WMd w, at1, S36, eb, bI1]
    · have hg : G.testBit i = false := by simpa using hg
      rw [hg] at eb
      by_cases hr : ear t i ≤ tk ∧ tk ≤ lat t i
      · rw [if_pos (⟨hg, hr⟩ : can t tk G i)]
        have hs2 := hs.mpr hr
        cases o with
        | none =>
          have e1 : oI none = -1 := rfl
          simp (disch := omega) only [bI_some, bV_some, bR_some, bL_some, ob_some, cd_t, cd_f, cd_d, okO_setI, okA_setI, okL_setI, aLen_setI, hR_setI, hI_setI, Bool.true_and, Bool.and_true, Bool.and_self, Option.isNone_some, Option.isSome_some, Option.isNone_none, Option.isSome_none, okO_chI, okA_chI, okL_chI, aLen_chI, hR_chI, ↓reduceIte, not_true_eq_false, not_false_eq_true, eq_self, c10, Nat.zero_add, nI_add, litA, litB, litM, nI_mul, nI_leI, nI_ltI, nI_eq, litLe, litLe2, litLt, litLt2, litEq, litEq2, in_nI, lit_in, nI_clamp, lit_cl, if_pos, if_neg, WMd w, at0, at1, S36, eb, bI1, S33, hs2, e1, Bool.false_eq_true, and_self]
          rfl
        | some c =>
          have hc := ho c rfl
          have at2 := T48 w T (i := 2 * c) (by omega)
          have at3 := T48 w T (i := 2 * c + 1) (by omega)
          have b2 := (T.2 (2 * c) (by omega)).1
          have b3 := (T.2 (2 * c + 1) (by omega)).1
          have e1 : oI (some c) = nI c := rfl
          have e2 : ¬ nI c = -1 := ne_m1 (by omega)
          by_cases hl : lat t c ≤ lat t i
          · have hl2 : t (2 * c) + t (2 * c + 1) ≤ t (2 * i) + t (2 * i + 1) := hl
            simp (disch := omega) only [bI_some, bV_some, bR_some, bL_some, ob_some, cd_t, cd_f, cd_d, okO_setI, okA_setI, okL_setI, aLen_setI, hR_setI, hI_setI, Bool.true_and, Bool.and_true, Bool.and_self, Option.isNone_some, Option.isSome_some, Option.isNone_none, Option.isSome_none, okO_chI, okA_chI, okL_chI, aLen_chI, hR_chI, ↓reduceIte, not_true_eq_false, not_false_eq_true, eq_self, c10, Nat.zero_add, nI_add, litA, litB, litM, nI_mul, nI_leI, nI_ltI, nI_eq, litLe, litLe2, litLt, litLt2, litEq, litEq2, in_nI, lit_in, nI_clamp, lit_cl, if_pos, if_neg, WMd w, at0, at1, at2, at3, S36, eb, bI1, S33, hs2, e1, e2, Bool.false_eq_true, and_self, hl]
          · have hl2 : ¬ t (2 * c) + t (2 * c + 1) ≤ t (2 * i) + t (2 * i + 1) := hl
            simp (disch := omega) only [bI_some, bV_some, bR_some, bL_some, ob_some, cd_t, cd_f, cd_d, okO_setI, okA_setI, okL_setI, aLen_setI, hR_setI, hI_setI, Bool.true_and, Bool.and_true, Bool.and_self, Option.isNone_some, Option.isSome_some, Option.isNone_none, Option.isSome_none, okO_chI, okA_chI, okL_chI, aLen_chI, hR_chI, ↓reduceIte, not_true_eq_false, not_false_eq_true, eq_self, c10, Nat.zero_add, nI_add, litA, litB, litM, nI_mul, nI_leI, nI_ltI, nI_eq, litLe, litLe2, litLt, litLt2, litEq, litEq2, in_nI, lit_in, nI_clamp, lit_cl, if_pos, if_neg, WMd w, at0, at1, at2, at3, S36, eb, bI1, S33, hs2, e1, e2, Bool.false_eq_true, and_self, hl]
            rfl
      · rw [if_neg (fun q : can t tk G i => hr q.2)]
        have hs2 : ¬ (nI (t (2 * i)) - nI (t (2 * i + 1)) ≤ nI tk ∧ tk ≤ t (2 * i) + t (2 * i + 1)) := fun q => hr (hs.mp ⟨q.1, nI_le q.2 (by omega)⟩)
        simp (disch := omega) only [bI_some, bV_some, bR_some, bL_some, ob_some, cd_t, cd_f, cd_d, okO_setI, okA_setI, okL_setI, aLen_setI, hR_setI, hI_setI, Bool.true_and, Bool.and_true, Bool.and_self, Option.isNone_some, Option.isSome_some, Option.isNone_none, Option.isSome_none, okO_chI, okA_chI, okL_chI, aLen_chI, hR_chI, ↓reduceIte, not_true_eq_false, not_false_eq_true, eq_self, c10, Nat.zero_add, nI_add, litA, litB, litM, nI_mul, nI_leI, nI_ltI, nI_eq, litLe, litLe2, litLt, litLt2, litEq, litEq2, in_nI, lit_in, nI_clamp, lit_cl, if_pos, if_neg, WMd w, at0, at1, S36, eb, bI1, S33, hs2, Bool.false_eq_true]
  · unfold pkf at hc
    by_cases hcn : can t tk G i
    · rw [if_pos hcn] at hc
      cases o with
      | none =>
        have : i = c := by simpa using hc
        omega
      | some b =>
        dsimp only at hc
        have := ho b rfl
        by_cases hl : lat t b ≤ lat t i
        · rw [if_pos hl] at hc
          have : b = c := by simpa using hc
          omega
        · rw [if_neg hl] at hc
          have : i = c := by simpa using hc
          omega
    · rw [if_neg hcn] at hc
      have := ho c hc
      omega
theorem V127 {rb dr : Nat} {jd : Option Nat} {h : rz_H} (w : Wf rb dr jd h) {N : Nat} {t : Nat → Nat} (T : Tm h N t) {n : Nat} (hn : 2 * n ≤ N) (h10 : n ≤ 10) (d : Nat) : rW (d + 1) 127 (38, (0, 0), [some (rz_r (some 109)), some (rz_i (nI n)), some (rz_i 0), some (rz_i 0), none, none, none], [], h) = some (rz_i (nI (pcn (Gs t n 306))), h) := by
  obtain ⟨⟨j, e⟩, -⟩ := lp_ji (fun tk G (j : Option rz_V × Option rz_V × Option rz_V) => rW (d + 1) 127 (38, (0, 0), [some (rz_r (some 109)), some (rz_i (nI n)), some (rz_i (nI G)), some (rz_i (nI tk)), j.1, j.2.1, j.2.2], [], h)) (nxG t n) (fun tk G => G = Gs t n tk) 306 (fun tk G j htk hG => by
    have hl := Gs_lt t h10 tk
    rw [← hG] at hl
    refine ⟨?_, by rw [Gs_s, hG]⟩
    obtain ⟨j2, e2⟩ := V127i w T hn h10 htk hl d
    rw [E127_38]
    simp (disch := omega) only [bI_some, bV_some, bR_some, bL_some, ob_some, cd_t, cd_f, cd_d, okO_setI, okA_setI, okL_setI, aLen_setI, hR_setI, hI_setI, Bool.true_and, Bool.and_true, Bool.and_self, Option.isNone_some, Option.isSome_some, Option.isNone_none, Option.isSome_none, okO_chI, okA_chI, okL_chI, aLen_chI, hR_chI, ↓reduceIte, not_true_eq_false, not_false_eq_true, eq_self, c10, Nat.zero_add, nI_add, litA, litB, litM, nI_mul, nI_leI, nI_ltI, nI_eq, litLe, litLe2, litLt, litLt2, litEq, litEq2, in_nI, lit_in, nI_clamp, lit_cl, if_pos, if_neg]
    rw [e2, E127_45]
    unfold nxG
    rcases hp : pko t n tk G with _ | c
    · refine ⟨(some (rz_i (-1)), some (rz_i (nI n)), none), ?_⟩
      have e1 : oI none = -1 := rfl
      simp (disch := omega) only [bI_some, bV_some, bR_some, bL_some, ob_some, cd_t, cd_f, cd_d, okO_setI, okA_setI, okL_setI, aLen_setI, hR_setI, hI_setI, Bool.true_and, Bool.and_true, Bool.and_self, Option.isNone_some, Option.isSome_some, Option.isNone_none, Option.isSome_none, okO_chI, okA_chI, okL_chI, aLen_chI, hR_chI, ↓reduceIte, not_true_eq_false, not_false_eq_true, eq_self, c10, Nat.zero_add, nI_add, litA, litB, litM, nI_mul, nI_leI, nI_ltI, nI_eq, litLe, litLe2, litLt, litLt2, litEq, litEq2, in_nI, lit_in, nI_clamp, lit_cl, if_pos, if_neg, e1]
    · have hc := (pko_in t tk G n c hp).1
      refine ⟨(some (rz_i (nI c)), some (rz_i (nI n)), none), ?_⟩
      have e1 : oI (some c) = nI c := rfl
      have e2 : ¬ nI c = -1 := ne_m1 (by omega)
      simp (disch := omega) only [bI_some, bV_some, bR_some, bL_some, ob_some, cd_t, cd_f, cd_d, okO_setI, okA_setI, okL_setI, aLen_setI, hR_setI, hI_setI, Bool.true_and, Bool.and_true, Bool.and_self, Option.isNone_some, Option.isSome_some, Option.isNone_none, Option.isSome_none, okO_chI, okA_chI, okL_chI, aLen_chI, hR_chI, ↓reduceIte, not_true_eq_false, not_false_eq_true, eq_self, c10, Nat.zero_add, nI_add, litA, litB, litM, nI_mul, nI_leI, nI_ltI, nI_eq, litLe, litLe2, litLt, litLt2, litEq, litEq2, in_nI, lit_in, nI_clamp, lit_cl, if_pos, if_neg, e1, e2, bit_nI, nI_or]) 306 0 0 (none, none, none) (by omega) rfl
  refine Eq.trans e ?_
  rw [show itr (nxG t n) 0 306 0 = Gs t n 306 from rfl, E127_38]
  have hl := Gs_lt t h10 306
  simp (disch := omega) only [bI_some, bV_some, bR_some, bL_some, ob_some, cd_t, cd_f, cd_d, okO_setI, okA_setI, okL_setI, aLen_setI, hR_setI, hI_setI, Bool.true_and, Bool.and_true, Bool.and_self, Option.isNone_some, Option.isSome_some, Option.isNone_none, Option.isSome_none, okO_chI, okA_chI, okL_chI, aLen_chI, hR_chI, ↓reduceIte, not_true_eq_false, not_false_eq_true, eq_self, c10, Nat.zero_add, nI_add, litA, litB, litM, nI_mul, nI_leI, nI_ltI, nI_eq, litLe, litLe2, litLt, litLt2, litEq, litEq2, in_nI, lit_in, nI_clamp, lit_cl, if_pos, if_neg, S37]
theorem P25 (x : Int32) : Pr Rel 25 127 [rz_i x] := by
  intro h r
  obtain ⟨rb, dr, jd, w, r1, r2, r3, r4, r5⟩ := id r
  obtain ⟨N, t, T⟩ := mkTq r3
  have hN := T.1.1
  by_cases hx : 1 ≤ x ∧ x ≤ 10
  · obtain ⟨n, hn, rfl⟩ := nI_of2 (x := x) (M := 10) (n := 10) rfl (fun q => Int32.not_lt.mpr hx.1 (Int32.lt_trans q (by decide))) hx.2
    have h1 := Int32.not_lt.mpr hx.1
    have h2 := Int32.not_lt.mpr hx.2
    by_cases hmn : 2 * n ≤ N
    · obtain ⟨k1, e1, w1, p1, u⟩ := T243 w T hmn hn 97
      have tail : ∀ (v : Int32) (k2 : rz_H), Wf rb dr jd k2 → Kp h k2 → cW 100 25 [rz_r (some 0), rz_i (nI n)] h = some (rz_i v, setI k2 1 1 0) → (∀ h2, Wf rb dr jd h2 → Kc h h2 → rW 99 127 (18, (0, 0), [some (rz_r (some 109)), some (rz_i (nI n)), some (rz_i 0), none, none, none, none], [], h2) = some (rz_i v, h2)) → ∃ v h1 h2, cW DD 25 (rz_r (some 0) :: [rz_i (nI n)]) h = some (rz_i v, h1) ∧ cW DD 127 (rz_r (some 109) :: [rz_i (nI n)]) h1 = some (rz_i v, h2) ∧ okO h1 109 [10] = true ∧ Rel h2 := fun v k2 w2 p2 e m => by
        have kc1 : Kc h (setI k2 1 1 0) := p2.1.clr
        have kc2 : Kc h (setI (setI k2 1 1 0) 109 4 0) := kc1.clm
        have w3 : Wf rb dr jd (setI k2 1 1 0) := w2
        have w4 : Wf rb dr jd (setI (setI k2 1 1 0) 109 4 0) := w2
        refine ⟨v, setI k2 1 1 0, setI (setI k2 1 1 0) 109 4 0, e, ?_, (WMd w3).1, R5.kc ⟨r1, r2, r3, r4, r5⟩ w4 kc2 ?_ ?_⟩
        · rw [show DD = 99 + 1 from rfl, E127]
          have t4 : hI k2 109 4 = nI N := p2.2.2.trans T.2.2.1
          simp (disch := omega) only [bI_some, bV_some, bR_some, bL_some, ob_some, cd_t, cd_f, cd_d, okO_setI, okA_setI, okL_setI, aLen_setI, hR_setI, hI_setI, Bool.true_and, Bool.and_true, Bool.and_self, Option.isNone_some, Option.isSome_some, Option.isNone_none, Option.isSome_none, okO_chI, okA_chI, okL_chI, aLen_chI, hR_chI, ↓reduceIte, not_true_eq_false, not_false_eq_true, eq_self, c10, Nat.zero_add, nI_add, litA, litB, litM, nI_mul, nI_leI, nI_ltI, nI_eq, litLe, litLe2, litLt, litLt2, litEq, litEq2, in_nI, lit_in, nI_clamp, lit_cl, if_pos, if_neg, S33, hx, WMd w2, WMd w3, t4, and_self, hI_setI]
          exact m _ w4 kc2
        · rw [hI_setI, if_neg (by omega), hI_setI, if_pos ⟨rfl, rfl⟩]
        · rw [hI_setI, if_pos ⟨rfl, rfl⟩]
      have lm : ∀ h2, Wf rb dr jd h2 → Kc h h2 → rW 99 127 (18, (0, 0), [some (rz_r (some 109)), some (rz_i (nI n)), some (rz_i 0), none, none, none, none], [], h2) = oel (fun _ => some (rz_i (-2), h2)) (some (rz_i (nI (pcn (Gs t n 306))), h2)) (fst (fun i => decide (50 < t (2 * i + 1))) 0 n) := fun h2 w2 kc2 => by
        refine lp_jf (fun i (j : Option rz_V × Option rz_V × Option rz_V × Option rz_V) => rW 99 127 (18, (0, 0), [some (rz_r (some 109)), some (rz_i (nI n)), some (rz_i (nI i)), j.1, j.2.1, j.2.2.1, j.2.2.2], [], h2)) (fun _ => some (rz_i (-2), h2)) (some (rz_i (nI (pcn (Gs t n 306))), h2)) (fun i => decide (50 < t (2 * i + 1))) n (fun i j hi => ?_) (fun j => ?_) n 0 (none, none, none, none) (by omega)
        · have at1 := T48 w2 (T.1.kc kc2) (i := 2 * i + 1) (by omega)
          have b1 := (T.1.2 (2 * i + 1) (by omega)).1
          refine ⟨fun hp => ?_, fun hp => ⟨(none, none, none, none), ?_⟩⟩
          · have hp := of_decide_eq_true hp
            rw [E127_18]
            simp (disch := omega) only [bI_some, bV_some, bR_some, bL_some, ob_some, cd_t, cd_f, cd_d, okO_setI, okA_setI, okL_setI, aLen_setI, hR_setI, hI_setI, Bool.true_and, Bool.and_true, Bool.and_self, Option.isNone_some, Option.isSome_some, Option.isNone_none, Option.isSome_none, okO_chI, okA_chI, okL_chI, aLen_chI, hR_chI, ↓reduceIte, not_true_eq_false, not_false_eq_true, eq_self, c10, Nat.zero_add, nI_add, litA, litB, litM, nI_mul, nI_leI, nI_ltI, nI_eq, litLe, litLe2, litLt, litLt2, litEq, litEq2, in_nI, lit_in, nI_clamp, lit_cl, if_pos, if_neg, WMd w2, at1]
          · have hp := of_decide_eq_false hp
            rw [E127_18]
            simp (disch := omega) only [bI_some, bV_some, bR_some, bL_some, ob_some, cd_t, cd_f, cd_d, okO_setI, okA_setI, okL_setI, aLen_setI, hR_setI, hI_setI, Bool.true_and, Bool.and_true, Bool.and_self, Option.isNone_some, Option.isSome_some, Option.isNone_none, Option.isSome_none, okO_chI, okA_chI, okL_chI, aLen_chI, hR_chI, ↓reduceIte, not_true_eq_false, not_false_eq_true, eq_self, c10, Nat.zero_add, nI_add, litA, litB, litM, nI_mul, nI_leI, nI_ltI, nI_eq, litLe, litLe2, litLt, litLt2, litEq, litEq2, in_nI, lit_in, nI_clamp, lit_cl, if_pos, if_neg, WMd w2, at1]
        · rw [E127_18]
          simp (disch := omega) only [bI_some, bV_some, bR_some, bL_some, ob_some, cd_t, cd_f, cd_d, okO_setI, okA_setI, okL_setI, aLen_setI, hR_setI, hI_setI, Bool.true_and, Bool.and_true, Bool.and_self, Option.isNone_some, Option.isSome_some, Option.isNone_none, Option.isSome_none, okO_chI, okA_chI, okL_chI, aLen_chI, hR_chI, ↓reduceIte, not_true_eq_false, not_false_eq_true, eq_self, c10, Nat.zero_add, nI_add, litA, litB, litM, nI_mul, nI_leI, nI_ltI, nI_eq, litLe, litLe2, litLt, litLt2, litEq, litEq2, in_nI, lit_in, nI_clamp, lit_cl, if_pos, if_neg]
          exact V127 w2 (T.1.kc kc2) hmn hn 98
      rcases hf : fst (fun i => decide (50 < t (2 * i + 1))) 0 n with _ | m
      · rw [hf] at lm e1
        obtain ⟨u1, u2⟩ := u hf
        obtain ⟨k2, e2, w2, p2⟩ := T244 w1 (fun i hi => (T.1.2 i (by omega)).1) hn u1 u2 98
        · refine tail (nI (pcn (Gs t n 306))) k2 w2 (p1.trans p2) ?_ (fun h2 a b => lm h2 a b)
          rw [E25]
          simp (disch := omega) only [bI_some, bV_some, bR_some, bL_some, ob_some, cd_t, cd_f, cd_d, okO_setI, okA_setI, okL_setI, aLen_setI, hR_setI, hI_setI, Bool.true_and, Bool.and_true, Bool.and_self, Option.isNone_some, Option.isSome_some, Option.isNone_none, Option.isSome_none, okO_chI, okA_chI, okL_chI, aLen_chI, hR_chI, ↓reduceIte, not_true_eq_false, not_false_eq_true, eq_self, c10, Nat.zero_add, nI_add, litA, litB, litM, nI_mul, nI_leI, nI_ltI, nI_eq, litLe, litLe2, litLt, litLt2, litEq, litEq2, in_nI, lit_in, nI_clamp, lit_cl, if_pos, if_neg, WRt w, WRt w1, WRt w2, S268 w, T.2.1, h1, h2, e1, bI1, Option.isNone_none, e2, S272 w2]
      · rw [hf] at lm e1
        refine tail (-2) k1 w1 p1 ?_ (fun h2 a b => lm h2 a b)
        rw [E25]
        simp (disch := omega) only [bI_some, bV_some, bR_some, bL_some, ob_some, cd_t, cd_f, cd_d, okO_setI, okA_setI, okL_setI, aLen_setI, hR_setI, hI_setI, Bool.true_and, Bool.and_true, Bool.and_self, Option.isNone_some, Option.isSome_some, Option.isNone_none, Option.isSome_none, okO_chI, okA_chI, okL_chI, aLen_chI, hR_chI, ↓reduceIte, not_true_eq_false, not_false_eq_true, eq_self, c10, Nat.zero_add, nI_add, litA, litB, litM, nI_mul, nI_leI, nI_ltI, nI_eq, litLe, litLe2, litLt, litLt2, litEq, litEq2, in_nI, lit_in, nI_clamp, lit_cl, if_pos, if_neg, WRt w, WRt w1, S268 w, T.2.1, h1, h2, e1, bI1, Option.isNone_some, Bool.false_eq_true, S272 w1]
    · refine ⟨-1, h, h, ?_, ?_, (WMd w).1, r⟩
      · rw [show DD = 99 + 1 from rfl, E25]
        simp (disch := omega) only [bI_some, bV_some, bR_some, bL_some, ob_some, cd_t, cd_f, cd_d, okO_setI, okA_setI, okL_setI, aLen_setI, hR_setI, hI_setI, Bool.true_and, Bool.and_true, Bool.and_self, Option.isNone_some, Option.isSome_some, Option.isNone_none, Option.isSome_none, okO_chI, okA_chI, okL_chI, aLen_chI, hR_chI, ↓reduceIte, not_true_eq_false, not_false_eq_true, eq_self, c10, Nat.zero_add, nI_add, litA, litB, litM, nI_mul, nI_leI, nI_ltI, nI_eq, litLe, litLe2, litLt, litLt2, litEq, litEq2, in_nI, lit_in, nI_clamp, lit_cl, if_pos, if_neg, WRt w, S268 w, T.2.1, h1, h2]
      · rw [show DD = 99 + 1 from rfl, E127]
        simp (disch := omega) only [bI_some, bV_some, bR_some, bL_some, ob_some, cd_t, cd_f, cd_d, okO_setI, okA_setI, okL_setI, aLen_setI, hR_setI, hI_setI, Bool.true_and, Bool.and_true, Bool.and_self, Option.isNone_some, Option.isSome_some, Option.isNone_none, Option.isSome_none, okO_chI, okA_chI, okL_chI, aLen_chI, hR_chI, ↓reduceIte, not_true_eq_false, not_false_eq_true, eq_self, c10, Nat.zero_add, nI_add, litA, litB, litM, nI_mul, nI_leI, nI_ltI, nI_eq, litLe, litLe2, litLt, litLt2, litEq, litEq2, in_nI, lit_in, nI_clamp, lit_cl, if_pos, if_neg, S33, hx, WMd w, T.2.2.1, and_self]
  · refine ⟨-1, h, h, ?_, ?_, (WMd w).1, r⟩
    · rw [show DD = 99 + 1 from rfl, E25]
      by_cases h1 : x < 1
      · simp only [bI_some, bV_some, bR_some, bL_some, ob_some, cd_t, cd_f, cd_d, okO_setI, okA_setI, okL_setI, aLen_setI, hR_setI, hI_setI, Bool.true_and, Bool.and_true, Bool.and_self, Option.isNone_some, Option.isSome_some, Option.isNone_none, Option.isSome_none, okO_chI, okA_chI, okL_chI, aLen_chI, hR_chI, ↓reduceIte, not_true_eq_false, not_false_eq_true, eq_self, c10, if_pos h1]
      · have h2 : (10 : Int32) < x := Int32.not_le.mp fun e => hx ⟨Int32.not_lt.mp h1, e⟩
        simp only [bI_some, bV_some, bR_some, bL_some, ob_some, cd_t, cd_f, cd_d, okO_setI, okA_setI, okL_setI, aLen_setI, hR_setI, hI_setI, Bool.true_and, Bool.and_true, Bool.and_self, Option.isNone_some, Option.isSome_some, Option.isNone_none, Option.isSome_none, okO_chI, okA_chI, okL_chI, aLen_chI, hR_chI, ↓reduceIte, not_true_eq_false, not_false_eq_true, eq_self, c10, if_neg h1, if_pos h2]
    · rw [show DD = 99 + 1 from rfl, E127]
      simp only [bI_some, bV_some, bR_some, bL_some, ob_some, cd_t, cd_f, cd_d, okO_setI, okA_setI, okL_setI, aLen_setI, hR_setI, hI_setI, Bool.true_and, Bool.and_true, Bool.and_self, Option.isNone_some, Option.isSome_some, Option.isNone_none, Option.isSome_none, okO_chI, okA_chI, okL_chI, aLen_chI, hR_chI, ↓reduceIte, not_true_eq_false, not_false_eq_true, eq_self, c10, S33, if_neg hx]
