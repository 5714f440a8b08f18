/-! the law's text: the model's waits -/
theorem psh_b (c : Bool) (a b : Int32) (h : rz_H) : (some (rz_i (bif c then a else b), h) : Option rz_Res) = bif c then some (rz_i a, h) else some (rz_i b, h) := by
  cases c <;> rfl
def lkN (s : Nat) : Nat := if s = 107 then 0 else if s = 112 then 1 else if s = 110 then 2 else if s = 117 then 3 else if s = 102 then 4 else if s = 115 then 5 else if s = 103 then 6 else if s = 116 then 7 else 8
def f57 (x : Int32) : Int32 := (bif decide (x = Int32.ofNat 102) then 4 else (bif decide (x = Int32.ofNat 103) then 6 else (bif decide (x = Int32.ofNat 104) then -1 else (bif decide (x = Int32.ofNat 105) then -1 else (bif decide (x = Int32.ofNat 106) then -1 else (bif decide (x = Int32.ofNat 107) then 0 else (bif decide (x = Int32.ofNat 108) then -1 else (bif decide (x = Int32.ofNat 109) then -1 else (bif decide (x = Int32.ofNat 110) then 2 else (bif decide (x = Int32.ofNat 111) then -1 else (bif decide (x = Int32.ofNat 112) then 1 else (bif decide (x = Int32.ofNat 113) then -1 else (bif decide (x = Int32.ofNat 114) then -1 else (bif decide (x = Int32.ofNat 115) then 5 else (bif decide (x = Int32.ofNat 116) then 7 else (bif decide (x = Int32.ofNat 117) then 3 else (bif decide (x = Int32.ofNat 118) then -1 else (bif decide (x = Int32.ofNat 119) then 8 else -1))))))))))))))))))
theorem f57_ck : ∀ b, b < 256 → f57 (nI b) = if lkT b = true then nI (lkN b) else -1 := by decide +kernel
theorem f57_m : f57 (-1) = -1 := by decide +kernel
theorem S57 (d : Nat) (h : rz_H) (x : Int32) : cW (d + 1) 57 [rz_i x] h = some (rz_i (f57 x), h) := by
  rw [E57]
  unfold f57
  simp only [psh_b]
theorem K57 {t : Nat → Nat} {L p : Nat} (hb : p < L → t p < 256) (d : Nat) (h : rz_H) : cW (d + 1) 57 [rz_i (pkI t L p)] h = some (rz_i (if p < L ∧ lkT (t p) = true then nI (lkN (t p)) else -1), h) := by
  rw [S57]
  by_cases c : p < L
  · rw [pkk_in c, f57_ck _ (hb c)]
    by_cases c2 : lkT (t p) = true
    · rw [if_pos c2, if_pos ⟨c, c2⟩]
    · rw [if_neg c2, if_neg (fun z => c2 z.2)]
  · rw [pkk_out c, f57_m, if_neg (fun z => c z.1)]
def f58 (x : Int32) : Int32 := (bif decide (¬ x = (43 : Int32)) then (bif decide (¬ x = (45 : Int32)) then (bif decide (¬ x = (42 : Int32)) then (bif decide (¬ x = (47 : Int32)) then (bif decide (¬ x = (37 : Int32)) then -1 else 6) else 5) else 4) else 3) else 2)
/-- a sign's number -/
def sgN (s : Nat) : Nat := if s = 43 then 2 else if s = 45 then 3 else if s = 42 then 4 else if s = 47 then 5 else 6
theorem f58_ck : ∀ b, b < 256 → f58 (nI b) = if addT b = true ∨ mulT b = true then nI (sgN b) else -1 := by decide +kernel
theorem f58_m : f58 (-1) = -1 := by decide +kernel
theorem S58 (d : Nat) (h : rz_H) (x : Int32) : cW (d + 1) 58 [rz_i x] h = some (rz_i (f58 x), h) := by
  rw [E58]
  unfold f58
  simp only [psh_b]
theorem K58 {t : Nat → Nat} {L p : Nat} (hb : p < L → t p < 256) (d : Nat) (h : rz_H) : cW (d + 1) 58 [rz_i (pkI t L p)] h = some (rz_i (if p < L ∧ (addT (t p) = true ∨ mulT (t p) = true) then nI (sgN (t p)) else -1), h) := by
  rw [S58]
  by_cases c : p < L
  · rw [pkk_in c, f58_ck _ (hb c)]
    by_cases c2 : addT (t p) = true ∨ mulT (t p) = true
    · rw [if_pos c2, if_pos ⟨c, c2⟩]
    · rw [if_neg c2, if_neg (fun z => c2 z.2)]
  · rw [pkk_out c, f58_m, if_neg (fun z => c z.1)]
/-- what waits, the last first -/
def WS (h : rz_H) : List Nat → Prop
  | [] => True
  | v :: r => hI h 115 r.length = nI v ∧ v < 16777216 ∧ WS h r
theorem WS.to {h h' : rz_H} : ∀ l : List Nat, (∀ i, i < l.length → hI h' 115 i = hI h 115 i) → WS h l → WS h' l
  | [], _, _ => trivial
  | v :: r, f, s => ⟨(f r.length (by rw [List.length_cons]; omega)).trans s.1, s.2.1, WS.to r (fun i hi => f i (by rw [List.length_cons]; omega)) s.2.2⟩
theorem K56n {rb dr : Nat} {jd : Option Nat} {h : rz_H} (w : Wf rb dr jd h) (e11 : hI h 109 11 = nI 0) (d : Nat) : cW (d + 1) 56 [rz_r (some 109)] h = some (rz_i (-1), h) := by
  rw [E56]
  simp (disch := omega) only [↓cd_d, ↓irem_eq_mod, ↓ob_setI, ↓ob_chI, ↓ob_some, bI_some, bV_some, bR_some, bL_some, ob_some, cd_t, cd_f, okO_setI, okA_setI, okL_setI, aLen_setI, hR_setI, hI_setI, Bool.true_and, Bool.and_true, Bool.and_self, Option.isNone_some, Option.isSome_some, Option.isNone_none, Option.isSome_none, okO_chI, okA_chI, okL_chI, aLen_chI, hR_chI, ↓reduceIte, not_true_eq_false, not_false_eq_true, eq_self, c10, Nat.zero_add, nI_add, litA, litB, litM, nI_mul, nI_leI, nI_ltI, nI_eq, litLe, litLe2, litLt, litLt2, litEq, litEq2, in_nI, lit_in, nI_clamp, lit_cl, if_pos, if_neg, WMd w, e11]
theorem K56 {rb dr : Nat} {jd : Option Nat} {h : rz_H} (w : Wf rb dr jd h) {v : Nat} {r : List Nat} (hl : r.length < 250) (e11 : hI h 109 11 = nI (r.length + 1)) (s : WS h (v :: r)) (d : Nat) : cW (d + 1) 56 [rz_r (some 109)] h = some (rz_i (nI (v / 1048576)), h) := by
  have u : nI (r.length + 1) - 1 = nI r.length := nI_sub (b := 1) (by omega)
  have sv := s.1
  have dv : nI v / (1048576 : Int32) = nI (v / 1048576) := nI_div (a := v) (b := 1048576) (by have := s.2.1; omega) (by omega)
  rw [E56]
  simp (disch := omega) only [↓cd_d, ↓irem_eq_mod, ↓ob_setI, ↓ob_chI, ↓ob_some, bI_some, bV_some, bR_some, bL_some, ob_some, cd_t, cd_f, okO_setI, okA_setI, okL_setI, aLen_setI, hR_setI, hI_setI, Bool.true_and, Bool.and_true, Bool.and_self, Option.isNone_some, Option.isSome_some, Option.isNone_none, Option.isSome_none, okO_chI, okA_chI, okL_chI, aLen_chI, hR_chI, ↓reduceIte, not_true_eq_false, not_false_eq_true, eq_self, c10, Nat.zero_add, nI_add, litA, litB, litM, nI_mul, nI_leI, nI_ltI, nI_eq, litLe, litLe2, litLt, litLt2, litEq, litEq2, in_nI, lit_in, nI_clamp, lit_cl, if_pos, if_neg, ↓WMb w, WMd w, e11, u, sv, dv]
