/-! story: forward -/
def dlt (a b : Nat) : Int32 := if a = 16 ∨ b = 16 then 0 else if 8 ≤ (b + 16 - a) % 16 then (if (b + 16 - a) % 16 ≤ 8 then 0 else nI ((b + 16 - a) % 16) - 16) else nI ((b + 16 - a) % 16)
theorem sub_z (a b : Nat) : nI b - nI a = Int32.ofInt ((b : Int) - (a : Int)) := by
  rw [Int32.ofInt_sub]; rfl
theorem sub_16 {a b : Nat} (ha : a ≤ 16) : nI b - nI a + (16 : Int32) = nI (b + 16 - a) := by
  rw [← nI_sub (by omega), ← nI_add, Int32.sub_eq_add_neg, Int32.sub_eq_add_neg, Int32.add_assoc, Int32.add_comm (-nI a), ← Int32.add_assoc]
  rfl
theorem neg_16 (x y : Int32) : x - (16 - y) = x + (y - 16) := by
  rw [Int32.sub_eq_add_neg, Int32.neg_sub]
theorem Q258 {rb dr : Nat} {jd : Option Nat} {h : rz_H} (w : Wf rb dr jd h) {k F : Nat} {g : Nat → Nat} (q : Dq h k F g) (d : Nat) : cW (d + 3) 258 [rz_r (some (5 + 3 * k))] h = some (rz_i (itr (fun i s => s + dlt (gv F g (nI i)) (gv F g (nI (i + 1)))) 0 F 0), h) := by
  have hF := q.2.2.1
  rw [E258]
  refine lp_j (fun i s j => rW (d + 2) 258 (4, (0, 0), [some (rz_r (some (5 + 3 * k))), some (rz_i s), some (rz_i (nI i)), j.1, j.2.1, j.2.2], [], h)) (fun s => some (rz_i s, h)) (fun i s => s + dlt (gv F g (nI i)) (gv F g (nI (i + 1)))) F (fun i s j hi => ?_) (fun s j => ?_) F 0 0 (none, none, none) (by omega)
  · have g1 := q.gv (nI i)
    have g2 := q.gv (nI (i + 1))
    generalize ea : gv F g (nI i) = a at g1
    generalize eb : gv F g (nI (i + 1)) = b at g2
    by_cases h1 : a = 16
    · refine ⟨(some (rz_i (nI a)), some (rz_i (nI b)), none), ?_⟩
      rw [E258_4]
      simp (disch := omega) only [bI_some, bV_some, bR_some, bL_some, ob_some, cd_t, cd_f, cd_d, okO_setI, okA_setI, okL_setI, aLen_setI, hR_setI, hI_setI, Bool.true_and, Bool.and_true, Bool.and_self, Option.isNone_some, Option.isSome_some, Option.isNone_none, Option.isSome_none, okO_chI, okA_chI, okL_chI, aLen_chI, hR_chI, ↓reduceIte, not_true_eq_false, not_false_eq_true, eq_self, c10, Nat.zero_add, nI_add, litA, litB, litM, nI_mul, nI_leI, nI_ltI, nI_eq, litLe, litLe2, litLt, litLt2, litEq, litEq2, in_nI, lit_in, nI_clamp, lit_cl, if_pos, if_neg, WD w (isD_3 q.1), Q136 w q, Q144 w q, Gp_gv, ea, eb]
      unfold dlt
      rw [if_pos (Or.inl h1), Int32.add_zero]
    · by_cases h2 : b = 16
      · refine ⟨(some (rz_i (nI a)), some (rz_i (nI b)), none), ?_⟩
        rw [E258_4]
        simp (disch := omega) only [bI_some, bV_some, bR_some, bL_some, ob_some, cd_t, cd_f, cd_d, okO_setI, okA_setI, okL_setI, aLen_setI, hR_setI, hI_setI, Bool.true_and, Bool.and_true, Bool.and_self, Option.isNone_some, Option.isSome_some, Option.isNone_none, Option.isSome_none, okO_chI, okA_chI, okL_chI, aLen_chI, hR_chI, ↓reduceIte, not_true_eq_false, not_false_eq_true, eq_self, c10, Nat.zero_add, nI_add, litA, litB, litM, nI_mul, nI_leI, nI_ltI, nI_eq, litLe, litLe2, litLt, litLt2, litEq, litEq2, in_nI, lit_in, nI_clamp, lit_cl, if_pos, if_neg, WD w (isD_3 q.1), Q136 w q, Q144 w q, Gp_gv, ea, eb]
        unfold dlt
        rw [if_pos (Or.inr h2), Int32.add_zero]
      · refine ⟨(some (rz_i (nI a)), some (rz_i (nI b)), some (rz_i (nI ((b + 16 - a) % 16)))), ?_⟩
        have fm := S276 (d + 1) h (z := (b : Int) - (a : Int)) (F := 16) (by omega) (by omega) (by omega) (by omega)
        rw [← sub_z, show ((b : Int) - (a : Int)) % ((16 : Nat) : Int) = (((b + 16 - a) % 16 : Nat) : Int) by omega, Int.toNat_natCast] at fm
        have fm : cW (d + 2) 276 [rz_i (nI b - nI a), rz_i (16 : Int32)] h = some (rz_i (nI ((b + 16 - a) % 16)), h) := fm
        unfold dlt
        rw [E258_4, if_neg (by omega)]
        by_cases h3 : 8 ≤ (b + 16 - a) % 16
        · by_cases h4 : (b + 16 - a) % 16 ≤ 8 <;> simp (disch := omega) only [bI_some, bV_some, bR_some, bL_some, ob_some, cd_t, cd_f, cd_d, okO_setI, okA_setI, okL_setI, aLen_setI, hR_setI, hI_setI, Bool.true_and, Bool.and_true, Bool.and_self, Option.isNone_some, Option.isSome_some, Option.isNone_none, Option.isSome_none, okO_chI, okA_chI, okL_chI, aLen_chI, hR_chI, ↓reduceIte, not_true_eq_false, not_false_eq_true, eq_self, c10, Nat.zero_add, nI_add, litA, litB, litM, nI_mul, nI_leI, nI_ltI, nI_eq, litLe, litLe2, litLt, litLt2, litEq, litEq2, in_nI, lit_in, nI_clamp, lit_cl, if_pos, if_neg, WD w (isD_3 q.1), Q136 w q, Q144 w q, Gp_gv, ea, eb, fm, h3, h4, Int32.add_zero, neg_16]
        · simp (disch := omega) only [bI_some, bV_some, bR_some, bL_some, ob_some, cd_t, cd_f, cd_d, okO_setI, okA_setI, okL_setI, aLen_setI, hR_setI, hI_setI, Bool.true_and, Bool.and_true, Bool.and_self, Option.isNone_some, Option.isSome_some, Option.isNone_none, Option.isSome_none, okO_chI, okA_chI, okL_chI, aLen_chI, hR_chI, ↓reduceIte, not_true_eq_false, not_false_eq_true, eq_self, c10, Nat.zero_add, nI_add, litA, litB, litM, nI_mul, nI_leI, nI_ltI, nI_eq, litLe, litLe2, litLt, litLt2, litEq, litEq2, in_nI, lit_in, nI_clamp, lit_cl, if_pos, if_neg, WD w (isD_3 q.1), Q136 w q, Q144 w q, Gp_gv, ea, eb, fm, h3]
  · rw [E258_4]
    simp (disch := omega) only [bI_some, bV_some, bR_some, bL_some, ob_some, cd_t, cd_f, cd_d, okO_setI, okA_setI, okL_setI, aLen_setI, hR_setI, hI_setI, Bool.true_and, Bool.and_true, Bool.and_self, Option.isNone_some, Option.isSome_some, Option.isNone_none, Option.isSome_none, okO_chI, okA_chI, okL_chI, aLen_chI, hR_chI, ↓reduceIte, not_true_eq_false, not_false_eq_true, eq_self, c10, Nat.zero_add, nI_add, litA, litB, litM, nI_mul, nI_leI, nI_ltI, nI_eq, litLe, litLe2, litLt, litLt2, litEq, litEq2, in_nI, lit_in, nI_clamp, lit_cl, if_pos, if_neg, WD w (isD_3 q.1), Q136 w q]
theorem Q103 {rb dr : Nat} {jd : Option Nat} {h : rz_H} (w : Wf rb dr jd h) {k F : Nat} {g : Nat → Nat} (q : Dq h k F g) (d : Nat) : cW (d + 3) 103 [rz_r (some 109), rz_i (nI k)] h = some (rz_i (itr (fun i s => s + dlt (gv F g (nI i)) (gv F g (nI (i + 1)))) 0 F 0), h) := by
  have hF := q.2.2.1
  rw [E103]
  refine lp_j (fun i s j => rW (d + 2) 103 (4, (0, 0), [some (rz_r (some 109)), some (rz_i (nI k)), some (rz_i s), some (rz_i (nI i)), j.1, j.2.1, j.2.2], [], h)) (fun s => some (rz_i s, h)) (fun i s => s + dlt (gv F g (nI i)) (gv F g (nI (i + 1)))) F (fun i s j hi => ?_) (fun s j => ?_) F 0 0 (none, none, none) (by omega)
  · have g1 := q.gv (nI i)
    have g2 := q.gv (nI (i + 1))
    generalize ea : gv F g (nI i) = a at g1
    generalize eb : gv F g (nI (i + 1)) = b at g2
    by_cases h1 : a = 16
    · refine ⟨(some (rz_i (nI a)), some (rz_i (nI b)), none), ?_⟩
      rw [E103_4]
      simp (disch := omega) only [bI_some, bV_some, bR_some, bL_some, ob_some, cd_t, cd_f, cd_d, okO_setI, okA_setI, okL_setI, aLen_setI, hR_setI, hI_setI, Bool.true_and, Bool.and_true, Bool.and_self, Option.isNone_some, Option.isSome_some, Option.isNone_none, Option.isSome_none, okO_chI, okA_chI, okL_chI, aLen_chI, hR_chI, ↓reduceIte, not_true_eq_false, not_false_eq_true, eq_self, c10, Nat.zero_add, nI_add, litA, litB, litM, nI_mul, nI_leI, nI_ltI, nI_eq, litLe, litLe2, litLt, litLt2, litEq, litEq2, in_nI, lit_in, nI_clamp, lit_cl, if_pos, if_neg, WMd w, Q41 w q, Q42 w q, Gp_gv, ea, eb]
      unfold dlt
      rw [if_pos (Or.inl h1), Int32.add_zero]
    · by_cases h2 : b = 16
      · refine ⟨(some (rz_i (nI a)), some (rz_i (nI b)), none), ?_⟩
        rw [E103_4]
        simp (disch := omega) only [bI_some, bV_some, bR_some, bL_some, ob_some, cd_t, cd_f, cd_d, okO_setI, okA_setI, okL_setI, aLen_setI, hR_setI, hI_setI, Bool.true_and, Bool.and_true, Bool.and_self, Option.isNone_some, Option.isSome_some, Option.isNone_none, Option.isSome_none, okO_chI, okA_chI, okL_chI, aLen_chI, hR_chI, ↓reduceIte, not_true_eq_false, not_false_eq_true, eq_self, c10, Nat.zero_add, nI_add, litA, litB, litM, nI_mul, nI_leI, nI_ltI, nI_eq, litLe, litLe2, litLt, litLt2, litEq, litEq2, in_nI, lit_in, nI_clamp, lit_cl, if_pos, if_neg, WMd w, Q41 w q, Q42 w q, Gp_gv, ea, eb]
        unfold dlt
        rw [if_pos (Or.inr h2), Int32.add_zero]
      · refine ⟨(some (rz_i (nI a)), some (rz_i (nI b)), some (rz_i (nI ((b + 16 - a) % 16)))), ?_⟩
        have s16 := sub_16 (a := a) (b := b) (by omega)
        have em : nI (b + 16 - a) % (16 : Int32) = nI ((b + 16 - a) % 16) := nI_mod (b := 16) (by omega) (by omega) (by omega)
        unfold dlt
        rw [E103_4, if_neg (by omega)]
        by_cases h3 : 8 ≤ (b + 16 - a) % 16
        · by_cases h4 : (b + 16 - a) % 16 ≤ 8 <;> simp (disch := omega) only [bI_some, bV_some, bR_some, bL_some, ob_some, cd_t, cd_f, cd_d, okO_setI, okA_setI, okL_setI, aLen_setI, hR_setI, hI_setI, Bool.true_and, Bool.and_true, Bool.and_self, Option.isNone_some, Option.isSome_some, Option.isNone_none, Option.isSome_none, okO_chI, okA_chI, okL_chI, aLen_chI, hR_chI, ↓reduceIte, not_true_eq_false, not_false_eq_true, eq_self, c10, Nat.zero_add, nI_add, litA, litB, litM, nI_mul, nI_leI, nI_ltI, nI_eq, litLe, litLe2, litLt, litLt2, litEq, litEq2, in_nI, lit_in, nI_clamp, lit_cl, if_pos, if_neg, WMd w, Q41 w q, Q42 w q, Gp_gv, ea, eb, s16, irem_eq_mod, em, h3, h4, Int32.add_zero]
        · simp (disch := omega) only [bI_some, bV_some, bR_some, bL_some, ob_some, cd_t, cd_f, cd_d, okO_setI, okA_setI, okL_setI, aLen_setI, hR_setI, hI_setI, Bool.true_and, Bool.and_true, Bool.and_self, Option.isNone_some, Option.isSome_some, Option.isNone_none, Option.isSome_none, okO_chI, okA_chI, okL_chI, aLen_chI, hR_chI, ↓reduceIte, not_true_eq_false, not_false_eq_true, eq_self, c10, Nat.zero_add, nI_add, litA, litB, litM, nI_mul, nI_leI, nI_ltI, nI_eq, litLe, litLe2, litLt, litLt2, litEq, litEq2, in_nI, lit_in, nI_clamp, lit_cl, if_pos, if_neg, WMd w, Q41 w q, Q42 w q, Gp_gv, ea, eb, s16, irem_eq_mod, em, h3]
  · rw [E103_4]
    simp (disch := omega) only [bI_some, bV_some, bR_some, bL_some, ob_some, cd_t, cd_f, cd_d, okO_setI, okA_setI, okL_setI, aLen_setI, hR_setI, hI_setI, Bool.true_and, Bool.and_true, Bool.and_self, Option.isNone_some, Option.isSome_some, Option.isNone_none, Option.isSome_none, okO_chI, okA_chI, okL_chI, aLen_chI, hR_chI, ↓reduceIte, not_true_eq_false, not_false_eq_true, eq_self, c10, Nat.zero_add, nI_add, litA, litB, litM, nI_mul, nI_leI, nI_ltI, nI_eq, litLe, litLe2, litLt, litLt2, litEq, litEq2, in_nI, lit_in, nI_clamp, lit_cl, if_pos, if_neg, WMd w, Q41 w q]
/-! the longest run -/
def okr (F : Nat) (g : Nat → Nat) (og : Bool) (i : Nat) : Bool := decide (gv F g (nI i) = 16) == og
def rns (ok : Nat → Bool) (i : Nat) (s : Nat × Nat) : Nat × Nat := if ok i = true then (max s.1 (s.2 + 1), s.2 + 1) else (s.1, 0)
theorem rns_ok (ok : Nat → Bool) : ∀ n, (∀ m, m ≤ (itr (rns ok) 0 n (0, 0)).2 ↔ m ≤ n ∧ ∀ j, j < m → ok (n - m + j) = true) ∧ (∀ m, m ≤ (itr (rns ok) 0 n (0, 0)).1 ↔ ∃ e, e ≤ n ∧ m ≤ e ∧ ∀ j, j < m → ok (e - m + j) = true)
  | 0 => ⟨fun m => ⟨fun h => ⟨h, fun j hj => absurd (Nat.lt_of_lt_of_le hj h) (Nat.not_lt_zero _)⟩, fun h => h.1⟩, fun m => ⟨fun h => ⟨0, Nat.le_refl _, h, fun j hj => absurd (Nat.lt_of_lt_of_le hj h) (Nat.not_lt_zero _)⟩, fun ⟨e, h1, h2, _⟩ => Nat.le_trans h2 h1⟩⟩
  | n + 1 => by
    obtain ⟨h1, h2⟩ := rns_ok ok n
    rw [itr_succ, Nat.zero_add]
    generalize itr (rns ok) 0 n (0, 0) = s at h1 h2
    have hr : ∀ m, m ≤ (rns ok n s).2 ↔ m ≤ n + 1 ∧ ∀ j, j < m → ok (n + 1 - m + j) = true := by
      intro m
      unfold rns
      by_cases ho : ok n = true
      · rw [if_pos ho]
        show m ≤ s.2 + 1 ↔ _
        constructor
        · intro hm
          rcases Nat.eq_zero_or_pos m with e | e
          · exact ⟨by omega, fun j hj => absurd hj (by omega)⟩
          · obtain ⟨a1, a2⟩ := (h1 (m - 1)).mp (by omega)
            refine ⟨by omega, fun j hj => ?_⟩
            by_cases hj2 : j < m - 1
            · have := a2 j hj2
              rw [show n - (m - 1) + j = n + 1 - m + j by omega] at this
              exact this
            · rw [show n + 1 - m + j = n by omega]; exact ho
        · intro ⟨a1, a2⟩
          rcases Nat.eq_zero_or_pos m with e | e
          · omega
          · have := (h1 (m - 1)).mpr ⟨by omega, fun j hj => by
              have := a2 j (by omega)
              rw [show n + 1 - m + j = n - (m - 1) + j by omega] at this
              exact this⟩
            omega
      · rw [if_neg ho]
        show m ≤ 0 ↔ _
        constructor
        · intro hm
          exact ⟨by omega, fun j hj => absurd hj (by omega)⟩
        · intro ⟨a1, a2⟩
          rcases Nat.eq_zero_or_pos m with e | e
          · omega
          · have := a2 (m - 1) (by omega)
            rw [show n + 1 - m + (m - 1) = n by omega] at this
            exact absurd this ho
    refine ⟨hr, fun m => ?_⟩
    have hl : m ≤ (rns ok n s).1 ↔ m ≤ s.1 ∨ m ≤ (rns ok n s).2 := by
      unfold rns
      by_cases ho : ok n = true
      · rw [if_pos ho]
        show m ≤ max s.1 (s.2 + 1) ↔ m ≤ s.1 ∨ m ≤ s.2 + 1
        omega
      · rw [if_neg ho]
        show m ≤ s.1 ↔ m ≤ s.1 ∨ m ≤ 0
        omega
    rw [hl, h2, hr]
    constructor
    · rintro (⟨e, e1, e2, e3⟩ | ⟨a1, a2⟩)
      · exact ⟨e, by omega, e2, e3⟩
      · exact ⟨n + 1, Nat.le_refl _, a1, a2⟩
    · rintro ⟨e, e1, e2, e3⟩
      by_cases he : e = n + 1
      · subst he; exact Or.inr ⟨e2, e3⟩
      · exact Or.inl ⟨e, by omega, e2, e3⟩
/-- the model's run from one frame on -/
def rnf (ok : Nat → Bool) (F a : Nat) : Nat := (fst (fun j => !ok (a + j)) 0 F).getD F
theorem rnf_ok (ok : Nat → Bool) (F a m : Nat) : m ≤ rnf ok F a ↔ m ≤ F ∧ ∀ j, j < m → ok (a + j) = true := by
  unfold rnf
  rcases hf : fst (fun j => !ok (a + j)) 0 F with _ | r
  · have hn := fst_none F 0 hf
    refine ⟨fun h => ⟨h, fun j hj => ?_⟩, fun h => h.1⟩
    have h : m ≤ F := h
    have := hn j (by omega) (by omega)
    simpa using this
  · obtain ⟨h1, h2, h3, h4⟩ := fst_some F 0 r hf
    show m ≤ r ↔ _
    constructor
    · intro h
      refine ⟨by omega, fun j hj => ?_⟩
      have := h4 j (by omega) (by omega)
      simpa using this
    · intro ⟨a1, a2⟩
      refine Nat.le_of_not_lt fun hlt => ?_
      have := a2 r hlt
      simp [this] at h3
theorem mxr_ok (r : Nat → Nat) : ∀ n m, m ≤ itr (fun a s => max s (r a)) 0 n 0 ↔ m = 0 ∨ ∃ a, a < n ∧ m ≤ r a
  | 0, m => ⟨fun h => Or.inl (Nat.le_zero.mp h), fun h => by
    rcases h with rfl | ⟨a, ha, _⟩
    · exact Nat.le_refl _
    · exact absurd ha (by omega)⟩
  | n + 1, m => by
    rw [itr_succ, Nat.zero_add]
    have ih := mxr_ok r n m
    have : m ≤ max (itr (fun a s => max s (r a)) 0 n 0) (r n) ↔ m ≤ itr (fun a s => max s (r a)) 0 n 0 ∨ m ≤ r n := by omega
    rw [this, ih]
    constructor
    · rintro ((h | ⟨a, a1, a2⟩) | h)
      · exact Or.inl h
      · exact Or.inr ⟨a, by omega, a2⟩
      · exact Or.inr ⟨n, by omega, h⟩
    · rintro (h | ⟨a, a1, a2⟩)
      · exact Or.inl (Or.inl h)
      · by_cases e : a = n
        · subst e; exact Or.inr a2
        · exact Or.inl (Or.inr ⟨a, by omega, a2⟩)
theorem run_eq (ok : Nat → Bool) {F : Nat} (h0 : 0 < F) (hp : ∀ i, ok (i % F) = ok i ∨ 1000 ≤ i) (hF : F ≤ 16) : min (itr (rns ok) 0 (2 * F) (0, 0)).1 F = itr (fun a s => max s (rnf ok F a)) 0 F 0 := by
  have key : ∀ m, m ≤ min (itr (rns ok) 0 (2 * F) (0, 0)).1 F ↔ m ≤ itr (fun a s => max s (rnf ok F a)) 0 F 0 := by
    intro m
    have e1 : m ≤ min (itr (rns ok) 0 (2 * F) (0, 0)).1 F ↔ m ≤ (itr (rns ok) 0 (2 * F) (0, 0)).1 ∧ m ≤ F := by omega
    rw [e1, (rns_ok ok (2 * F)).2 m, mxr_ok]
    constructor
    · rintro ⟨⟨e, a1, a2, a3⟩, hm⟩
      refine Or.inr ⟨(e - m) % F, Nat.mod_lt _ h0, (rnf_ok ok F _ m).mpr ⟨hm, fun j hj => ?_⟩⟩
      have hlt := Nat.mod_lt (e - m) h0
      have x1 := hp ((e - m) % F + j)
      have x2 := hp (e - m + j)
      rw [Nat.mod_add_mod] at x1
      have x1 : ok ((e - m + j) % F) = ok ((e - m) % F + j) := by
        rcases x1 with x | x
        · exact x
        · omega
      have x2 : ok ((e - m + j) % F) = ok (e - m + j) := by
        rcases x2 with x | x
        · exact x
        · omega
      rw [← x1, x2]
      exact a3 j hj
    · rintro (rfl | ⟨a, a1, a2⟩)
      · exact ⟨⟨0, by omega, Nat.le_refl _, fun j hj => absurd hj (by omega)⟩, by omega⟩
      · obtain ⟨b1, b2⟩ := (rnf_ok ok F a m).mp a2
        refine ⟨⟨a + m, by omega, by omega, fun j hj => ?_⟩, b1⟩
        rw [show a + m - m + j = a + j by omega]
        exact b2 j hj
  exact Nat.le_antisymm ((key _).mp (Nat.le_refl _)) ((key _).mpr (Nat.le_refl _))
theorem okr_p {F : Nat} {g : Nat → Nat} {og : Bool} (h0 : 0 < F) (hF : F ≤ 16) (i : Nat) : okr F g og (i % F) = okr F g og i ∨ 1000 ≤ i := by
  by_cases hi : 1000 ≤ i
  · exact Or.inr hi
  · refine Or.inl ?_
    unfold okr
    have := Nat.mod_lt i h0
    rw [gv_nI (by omega), gv_nI (by omega), Nat.mod_mod]
theorem bq1 : (true == true) = true := rfl
theorem bq2 : (true == false) = false := rfl
theorem bq3 : (false == true) = false := rfl
theorem bq4 : (false == false) = true := rfl
theorem Q259 {rb dr : Nat} {jd : Option Nat} {h : rz_H} (w : Wf rb dr jd h) {k F : Nat} {g : Nat → Nat} (q : Dq h k F g) (d : Nat) (og : Bool) : cW (d + 3) 259 [rz_r (some (5 + 3 * k)), rz_i (bI1 og)] h = some (rz_i (nI (min (itr (rns (okr F g og)) 0 (2 * F) (0, 0)).1 F)), h) := by
  have hF := q.2.2.1
  rw [E259]
  simp only [bI_some, bV_some, bR_some, bL_some, ob_some, cd_t, cd_f, cd_d, okO_setI, okA_setI, okL_setI, aLen_setI, hR_setI, hI_setI, Bool.true_and, Bool.and_true, Bool.and_self, Option.isNone_some, Option.isSome_some, Option.isNone_none, Option.isSome_none, okO_chI, okA_chI, okL_chI, aLen_chI, hR_chI, ↓reduceIte, not_true_eq_false, not_false_eq_true, eq_self, c10, WD w (isD_3 q.1), Q136 w q]
  obtain ⟨⟨j2, e2⟩, i1, i2⟩ := lp_ji (τ := Unit) (fun i (s : Nat × Nat) _ => rW (d + 2) 259 (9, (0, 0), [some (rz_r (some (5 + 3 * k))), some (rz_i (bI1 og)), some (rz_i (nI F)), some (rz_i (nI s.1)), some (rz_i (nI s.2)), some (rz_i (nI i))], [], h)) (rns (okr F g og)) (fun i s => s.1 ≤ i ∧ s.2 ≤ i) (2 * F) (fun i s j hi hs => by
      obtain ⟨s1, s2⟩ := s
      obtain ⟨a1, a2⟩ := hs
      have a1 : s1 ≤ i := a1
      have a2 : s2 ≤ i := a2
      have hg := q.gv (nI i)
      have m0 : mx (nI s1) (0 : Int32) = nI s1 := by
        rw [show (0 : Int32) = nI 0 from rfl, mx_nI (by omega) (by omega), Nat.max_eq_left (by omega)]
      refine ⟨⟨(), ?_⟩, ?_⟩
      · show rW (d + 2) 259 (9, (0, 0), [some (rz_r (some (5 + 3 * k))), some (rz_i (bI1 og)), some (rz_i (nI F)), some (rz_i (nI s1)), some (rz_i (nI s2)), some (rz_i (nI i))], [], h) = _
        rw [E259_9]
        unfold rns okr
        have n01 : ¬ (0 : Int32) = 1 := by decide
        by_cases h16 : gv F g (nI i) = 16 <;> cases og <;> simp (disch := omega) only [bI_some, bV_some, bR_some, bL_some, ob_some, cd_t, cd_f, cd_d, okO_setI, okA_setI, okL_setI, aLen_setI, hR_setI, hI_setI, Bool.true_and, Bool.and_true, Bool.and_self, Option.isNone_some, Option.isSome_some, Option.isNone_none, Option.isSome_none, okO_chI, okA_chI, okL_chI, aLen_chI, hR_chI, ↓reduceIte, not_true_eq_false, not_false_eq_true, eq_self, c10, Nat.zero_add, nI_add, litA, litB, litM, nI_mul, nI_leI, nI_ltI, nI_eq, litLe, litLe2, litLt, litLt2, litEq, litEq2, in_nI, lit_in, nI_clamp, lit_cl, if_pos, if_neg, WD w (isD_3 q.1), Q144 w q, Gp_gv, T277, bI1, Bool.false_eq_true, m0, mx_nI, h16, decide_true, decide_false, n01, bq1, bq2, bq3, bq4]
        all_goals rfl
      · unfold rns
        split
        · exact ⟨by show max s1 (s2 + 1) ≤ i + 1; omega, by show s2 + 1 ≤ i + 1; omega⟩
        · exact ⟨by show s1 ≤ i + 1; omega, by show 0 ≤ i + 1; omega⟩) (2 * F) 0 (0, 0) () (by omega) ⟨Nat.le_refl _, Nat.le_refl _⟩
  refine Eq.trans e2 ?_
  rw [E259_9]
  simp (disch := omega) only [bI_some, bV_some, bR_some, bL_some, ob_some, cd_t, cd_f, cd_d, okO_setI, okA_setI, okL_setI, aLen_setI, hR_setI, hI_setI, Bool.true_and, Bool.and_true, Bool.and_self, Option.isNone_some, Option.isSome_some, Option.isNone_none, Option.isSome_none, okO_chI, okA_chI, okL_chI, aLen_chI, hR_chI, ↓reduceIte, not_true_eq_false, not_false_eq_true, eq_self, c10, Nat.zero_add, nI_add, litA, litB, litM, nI_mul, nI_leI, nI_ltI, nI_eq, litLe, litLe2, litLt, litLt2, litEq, litEq2, in_nI, lit_in, nI_clamp, lit_cl, if_pos, if_neg, T278, mn_nI]
theorem Q104 {rb dr : Nat} {jd : Option Nat} {h : rz_H} (w : Wf rb dr jd h) {k F : Nat} {g : Nat → Nat} (q : Dq h k F g) (d : Nat) (og : Bool) : cW (d + 3) 104 [rz_r (some 109), rz_i (nI k), rz_i (bI1 og)] h = some (rz_i (nI (itr (fun a s => max s (rnf (okr F g og) F a)) 0 F 0)), h) := by
  have hF := q.2.2.1
  rw [E104]
  simp only [bI_some, bV_some, bR_some, bL_some, ob_some, cd_t, cd_f, cd_d, okO_setI, okA_setI, okL_setI, aLen_setI, hR_setI, hI_setI, Bool.true_and, Bool.and_true, Bool.and_self, Option.isNone_some, Option.isSome_some, Option.isNone_none, Option.isSome_none, okO_chI, okA_chI, okL_chI, aLen_chI, hR_chI, ↓reduceIte, not_true_eq_false, not_false_eq_true, eq_self, c10, WMd w, Q41 w q]
  have hr : ∀ a, rnf (okr F g og) F a ≤ F := fun a => ((rnf_ok (okr F g og) F a _).mp (Nat.le_refl _)).1
  obtain ⟨⟨j2, e2⟩, i1⟩ := lp_ji (fun a s j => rW (d + 2) 104 (8, (0, 0), [some (rz_r (some 109)), some (rz_i (nI k)), some (rz_i (bI1 og)), some (rz_i (nI F)), some (rz_i (nI s)), some (rz_i (nI a)), j], [], h)) (fun a s => max s (rnf (okr F g og) F a)) (fun a s => s ≤ F) F (fun a s j ha hs => by
      have hra := hr a
      refine ⟨⟨some (rz_i (nI (rnf (okr F g og) F a))), ?_⟩, by show max s (rnf (okr F g og) F a) ≤ F; omega⟩
      rw [E104_8]
      simp (disch := omega) only [bI_some, bV_some, bR_some, bL_some, ob_some, cd_t, cd_f, cd_d, okO_setI, okA_setI, okL_setI, aLen_setI, hR_setI, hI_setI, Bool.true_and, Bool.and_true, Bool.and_self, Option.isNone_some, Option.isSome_some, Option.isNone_none, Option.isSome_none, okO_chI, okA_chI, okL_chI, aLen_chI, hR_chI, ↓reduceIte, not_true_eq_false, not_false_eq_true, eq_self, c10, Nat.zero_add, nI_add, litA, litB, litM, nI_mul, nI_leI, nI_ltI, nI_eq, litLe, litLe2, litLt, litLt2, litEq, litEq2, in_nI, lit_in, nI_clamp, lit_cl, if_pos, if_neg]
      have key := lp_jf (τ := Unit) (fun t _ => rW (d + 2) 104 (13, (0, 0), [some (rz_r (some 109)), some (rz_i (nI k)), some (rz_i (bI1 og)), some (rz_i (nI F)), some (rz_i (nI s)), some (rz_i (nI a)), some (rz_i (nI t))], [], h)) (fun t => rW (d + 2) 104 (8, (0, 0), [some (rz_r (some 109)), some (rz_i (nI k)), some (rz_i (bI1 og)), some (rz_i (nI F)), some (rz_i (nI (max s t))), some (rz_i (nI (a + 1))), some (rz_i (nI t))], [], h)) (rW (d + 2) 104 (8, (0, 0), [some (rz_r (some 109)), some (rz_i (nI k)), some (rz_i (bI1 og)), some (rz_i (nI F)), some (rz_i (nI (max s F))), some (rz_i (nI (a + 1))), some (rz_i (nI F))], [], h)) (fun j => !okr F g og (a + j)) F (fun t _ ht => ⟨fun hp => ?_, fun hp => ⟨(), ?_⟩⟩) (fun _ => ?_) F 0 () (by omega)
      · refine Eq.trans key ?_
        unfold rnf
        cases fst (fun j => !okr F g og (a + j)) 0 F <;> rfl
      · have hp : okr F g og (a + t) = false := by simpa using hp
        have hg := q.gv (nI (a + t))
        unfold okr at hp
        have n01 : ¬ (0 : Int32) = 1 := by decide
        rw [E104_13]
        by_cases h16 : gv F g (nI (a + t)) = 16 <;> cases og <;> simp [h16] at hp <;> simp (disch := omega) only [bI_some, bV_some, bR_some, bL_some, ob_some, cd_t, cd_f, cd_d, okO_setI, okA_setI, okL_setI, aLen_setI, hR_setI, hI_setI, Bool.true_and, Bool.and_true, Bool.and_self, Option.isNone_some, Option.isSome_some, Option.isNone_none, Option.isSome_none, okO_chI, okA_chI, okL_chI, aLen_chI, hR_chI, ↓reduceIte, not_true_eq_false, not_false_eq_true, eq_self, c10, Nat.zero_add, nI_add, litA, litB, litM, nI_mul, nI_leI, nI_ltI, nI_eq, litLe, litLe2, litLt, litLt2, litEq, litEq2, in_nI, lit_in, nI_clamp, lit_cl, if_pos, if_neg, WMd w, Q42 w q, Gp_gv, S35, mx_nI, bI1, Bool.false_eq_true, h16, n01]
      · have hp : okr F g og (a + t) = true := by simpa using hp
        have hg := q.gv (nI (a + t))
        unfold okr at hp
        have n01 : ¬ (0 : Int32) = 1 := by decide
        rw [E104_13]
        by_cases h16 : gv F g (nI (a + t)) = 16 <;> cases og <;> simp [h16] at hp <;> simp (disch := omega) only [bI_some, bV_some, bR_some, bL_some, ob_some, cd_t, cd_f, cd_d, okO_setI, okA_setI, okL_setI, aLen_setI, hR_setI, hI_setI, Bool.true_and, Bool.and_true, Bool.and_self, Option.isNone_some, Option.isSome_some, Option.isNone_none, Option.isSome_none, okO_chI, okA_chI, okL_chI, aLen_chI, hR_chI, ↓reduceIte, not_true_eq_false, not_false_eq_true, eq_self, c10, Nat.zero_add, nI_add, litA, litB, litM, nI_mul, nI_leI, nI_ltI, nI_eq, litLe, litLe2, litLt, litLt2, litEq, litEq2, in_nI, lit_in, nI_clamp, lit_cl, if_pos, if_neg, WMd w, Q42 w q, Gp_gv, S35, mx_nI, bI1, Bool.false_eq_true, h16, n01]
      · rw [E104_13]
        simp (disch := omega) only [bI_some, bV_some, bR_some, bL_some, ob_some, cd_t, cd_f, cd_d, okO_setI, okA_setI, okL_setI, aLen_setI, hR_setI, hI_setI, Bool.true_and, Bool.and_true, Bool.and_self, Option.isNone_some, Option.isSome_some, Option.isNone_none, Option.isSome_none, okO_chI, okA_chI, okL_chI, aLen_chI, hR_chI, ↓reduceIte, not_true_eq_false, not_false_eq_true, eq_self, c10, Nat.zero_add, nI_add, litA, litB, litM, nI_mul, nI_leI, nI_ltI, nI_eq, litLe, litLe2, litLt, litLt2, litEq, litEq2, in_nI, lit_in, nI_clamp, lit_cl, if_pos, if_neg, S35, mx_nI]) F 0 0 none (by omega) (by omega)
  refine Eq.trans e2 ?_
  rw [E104_8]
  simp (disch := omega) only [bI_some, bV_some, bR_some, bL_some, ob_some, cd_t, cd_f, cd_d, okO_setI, okA_setI, okL_setI, aLen_setI, hR_setI, hI_setI, Bool.true_and, Bool.and_true, Bool.and_self, Option.isNone_some, Option.isSome_some, Option.isNone_none, Option.isSome_none, okO_chI, okA_chI, okL_chI, aLen_chI, hR_chI, ↓reduceIte, not_true_eq_false, not_false_eq_true, eq_self, c10, Nat.zero_add, nI_add, litA, litB, litM, nI_mul, nI_leI, nI_ltI, nI_eq, litLe, litLe2, litLt, litLt2, litEq, litEq2, in_nI, lit_in, nI_clamp, lit_cl, if_pos, if_neg]
theorem P13 (x y : Int32) : Pr Rel 13 106 [rz_i x, rz_i y] := by
  intro h r
  obtain ⟨rb, dr, jd, w, r1, r2, r3, r4, r5⟩ := id r
  rcases tld r1 r2 x with ⟨k, F, g, rfl, q⟩ | n
  · have hF := q.2.2.1
    have hF0 := q.2.1
    have hs := pst_lt q (fun _ => true) nI
    have key : ∀ u, cW 100 13 [rz_r (some 0), rz_i (nI k), rz_i y] h = some (rz_i u, h) → cW 100 106 [rz_r (some 109), rz_i (nI k), rz_i y] h = some (rz_i u, h) → ∃ v h1 h2, cW DD 13 [rz_r (some 0), rz_i (nI k), rz_i y] h = some (rz_i v, h1) ∧ cW DD 106 [rz_r (some 109), rz_i (nI k), rz_i y] h1 = some (rz_i v, h2) ∧ okO h1 109 [10] = true ∧ Rel h2 := fun u e1 e2 => ⟨u, h, h, e1, e2, (WMd w).1, r⟩
    by_cases y0 : y = Int32.ofNat 0
    · refine key (nI (lst F g)) ?_ ?_
      · rw [E13]; simp only [bI_some, bV_some, bR_some, bL_some, ob_some, cd_t, cd_f, cd_d, okO_setI, okA_setI, okL_setI, aLen_setI, hR_setI, hI_setI, Bool.true_and, Bool.and_true, Bool.and_self, Option.isNone_some, Option.isSome_some, Option.isNone_none, Option.isSome_none, okO_chI, okA_chI, okL_chI, aLen_chI, hR_chI, ↓reduceIte, not_true_eq_false, not_false_eq_true, eq_self, c10, WRt w, Q181 w q, if_pos y0, Q255 w q]
      · rw [E106]; simp only [bI_some, bV_some, bR_some, bL_some, ob_some, cd_t, cd_f, cd_d, okO_setI, okA_setI, okL_setI, aLen_setI, hR_setI, hI_setI, Bool.true_and, Bool.and_true, Bool.and_self, Option.isNone_some, Option.isSome_some, Option.isNone_none, Option.isSome_none, okO_chI, okA_chI, okL_chI, aLen_chI, hR_chI, ↓reduceIte, not_true_eq_false, not_false_eq_true, eq_self, c10, Q39 w q, WMd w, if_pos y0, Q99 w q]
    by_cases y1 : y = Int32.ofNat 1
    · obtain ⟨T, t1, t2, t3, t4, t5⟩ := Q256 w q 95
      obtain ⟨k', t6, t7, t8⟩ := Q100 w q 94 T t1 t2 t3 t4
      refine ⟨nI T, h, k', ?_, ?_, (WMd w).1, R5.kp ⟨r1, r2, r3, r4, r5⟩ t7 t8⟩
      · rw [show DD = 99 + 1 from rfl, E13]; simp only [bI_some, bV_some, bR_some, bL_some, ob_some, cd_t, cd_f, cd_d, okO_setI, okA_setI, okL_setI, aLen_setI, hR_setI, hI_setI, Bool.true_and, Bool.and_true, Bool.and_self, Option.isNone_some, Option.isSome_some, Option.isNone_none, Option.isSome_none, okO_chI, okA_chI, okL_chI, aLen_chI, hR_chI, ↓reduceIte, not_true_eq_false, not_false_eq_true, eq_self, c10, WRt w, Q181 w q, if_neg y0, if_pos y1, t5]
      · rw [show DD = 99 + 1 from rfl, E106]; simp only [bI_some, bV_some, bR_some, bL_some, ob_some, cd_t, cd_f, cd_d, okO_setI, okA_setI, okL_setI, aLen_setI, hR_setI, hI_setI, Bool.true_and, Bool.and_true, Bool.and_self, Option.isNone_some, Option.isSome_some, Option.isNone_none, Option.isSome_none, okO_chI, okA_chI, okL_chI, aLen_chI, hR_chI, ↓reduceIte, not_true_eq_false, not_false_eq_true, eq_self, c10, Q39 w q, WMd w, if_neg y0, if_pos y1, t6]
    by_cases y2 : y = Int32.ofNat 2
    · refine key (itr (fun b m => mn m (nI (mir F g b))) 0 F (nI F)) ?_ ?_
      · rw [E13]; simp only [bI_some, bV_some, bR_some, bL_some, ob_some, cd_t, cd_f, cd_d, okO_setI, okA_setI, okL_setI, aLen_setI, hR_setI, hI_setI, Bool.true_and, Bool.and_true, Bool.and_self, Option.isNone_some, Option.isSome_some, Option.isNone_none, Option.isSome_none, okO_chI, okA_chI, okL_chI, aLen_chI, hR_chI, ↓reduceIte, not_true_eq_false, not_false_eq_true, eq_self, c10, WRt w, Q181 w q, if_neg y0, if_neg y1, if_pos y2, Q257 w q]
      · rw [E106]; simp only [bI_some, bV_some, bR_some, bL_some, ob_some, cd_t, cd_f, cd_d, okO_setI, okA_setI, okL_setI, aLen_setI, hR_setI, hI_setI, Bool.true_and, Bool.and_true, Bool.and_self, Option.isNone_some, Option.isSome_some, Option.isNone_none, Option.isSome_none, okO_chI, okA_chI, okL_chI, aLen_chI, hR_chI, ↓reduceIte, not_true_eq_false, not_false_eq_true, eq_self, c10, Q39 w q, WMd w, if_neg y0, if_neg y1, if_pos y2, Q102 w q, mir_eq g hF0 hF]
    by_cases y3 : y = Int32.ofNat 3
    · refine key (itr (fun i s => s + dlt (gv F g (nI i)) (gv F g (nI (i + 1)))) 0 F 0) ?_ ?_
      · rw [E13]; simp only [bI_some, bV_some, bR_some, bL_some, ob_some, cd_t, cd_f, cd_d, okO_setI, okA_setI, okL_setI, aLen_setI, hR_setI, hI_setI, Bool.true_and, Bool.and_true, Bool.and_self, Option.isNone_some, Option.isSome_some, Option.isNone_none, Option.isSome_none, okO_chI, okA_chI, okL_chI, aLen_chI, hR_chI, ↓reduceIte, not_true_eq_false, not_false_eq_true, eq_self, c10, WRt w, Q181 w q, if_neg y0, if_neg y1, if_neg y2, if_pos y3, Q258 w q]
      · rw [E106]; simp only [bI_some, bV_some, bR_some, bL_some, ob_some, cd_t, cd_f, cd_d, okO_setI, okA_setI, okL_setI, aLen_setI, hR_setI, hI_setI, Bool.true_and, Bool.and_true, Bool.and_self, Option.isNone_some, Option.isSome_some, Option.isNone_none, Option.isSome_none, okO_chI, okA_chI, okL_chI, aLen_chI, hR_chI, ↓reduceIte, not_true_eq_false, not_false_eq_true, eq_self, c10, Q39 w q, WMd w, if_neg y0, if_neg y1, if_neg y2, if_pos y3, Q103 w q]
    by_cases y4 : y = Int32.ofNat 4
    · have c1 := Q259 w q 96 false
      have c2 := Q104 w q 96 false
      rw [run_eq _ hF0 (fun i => okr_p hF0 hF i) hF] at c1
      refine key (nI (itr (fun a s => max s (rnf (okr F g false) F a)) 0 F 0)) ?_ ?_
      · rw [E13]; simp only [bI_some, bV_some, bR_some, bL_some, ob_some, cd_t, cd_f, cd_d, okO_setI, okA_setI, okL_setI, aLen_setI, hR_setI, hI_setI, Bool.true_and, Bool.and_true, Bool.and_self, Option.isNone_some, Option.isSome_some, Option.isNone_none, Option.isSome_none, okO_chI, okA_chI, okL_chI, aLen_chI, hR_chI, ↓reduceIte, not_true_eq_false, not_false_eq_true, eq_self, c10, WRt w, Q181 w q, if_neg y0, if_neg y1, if_neg y2, if_neg y3, if_pos y4]
        rw [show (0 : Int32) = bI1 false from rfl, c1]; rfl
      · rw [E106]; simp only [bI_some, bV_some, bR_some, bL_some, ob_some, cd_t, cd_f, cd_d, okO_setI, okA_setI, okL_setI, aLen_setI, hR_setI, hI_setI, Bool.true_and, Bool.and_true, Bool.and_self, Option.isNone_some, Option.isSome_some, Option.isNone_none, Option.isSome_none, okO_chI, okA_chI, okL_chI, aLen_chI, hR_chI, ↓reduceIte, not_true_eq_false, not_false_eq_true, eq_self, c10, Q39 w q, WMd w, if_neg y0, if_neg y1, if_neg y2, if_neg y3, if_pos y4]
        rw [show (0 : Int32) = bI1 false from rfl, c2]; rfl
    by_cases y5 : y = Int32.ofNat 5
    · have c1 := Q259 w q 96 true
      have c2 := Q104 w q 96 true
      rw [run_eq _ hF0 (fun i => okr_p hF0 hF i) hF] at c1
      refine key (nI (itr (fun a s => max s (rnf (okr F g true) F a)) 0 F 0)) ?_ ?_
      · rw [E13]; simp only [bI_some, bV_some, bR_some, bL_some, ob_some, cd_t, cd_f, cd_d, okO_setI, okA_setI, okL_setI, aLen_setI, hR_setI, hI_setI, Bool.true_and, Bool.and_true, Bool.and_self, Option.isNone_some, Option.isSome_some, Option.isNone_none, Option.isSome_none, okO_chI, okA_chI, okL_chI, aLen_chI, hR_chI, ↓reduceIte, not_true_eq_false, not_false_eq_true, eq_self, c10, WRt w, Q181 w q, if_neg y0, if_neg y1, if_neg y2, if_neg y3, if_neg y4, if_pos y5]
        rw [show (1 : Int32) = bI1 true from rfl, c1]; rfl
      · rw [E106]; simp only [bI_some, bV_some, bR_some, bL_some, ob_some, cd_t, cd_f, cd_d, okO_setI, okA_setI, okL_setI, aLen_setI, hR_setI, hI_setI, Bool.true_and, Bool.and_true, Bool.and_self, Option.isNone_some, Option.isSome_some, Option.isNone_none, Option.isSome_none, okO_chI, okA_chI, okL_chI, aLen_chI, hR_chI, ↓reduceIte, not_true_eq_false, not_false_eq_true, eq_self, c10, Q39 w q, WMd w, if_neg y0, if_neg y1, if_neg y2, if_neg y3, if_neg y4, if_pos y5]
        rw [show (1 : Int32) = bI1 true from rfl, c2]; rfl
    by_cases y6 : y = Int32.ofNat 6
    · refine key (nI (pcn (pst F g (fun _ => true) nI))) ?_ ?_
      · rw [E13]; simp only [bI_some, bV_some, bR_some, bL_some, ob_some, cd_t, cd_f, cd_d, okO_setI, okA_setI, okL_setI, aLen_setI, hR_setI, hI_setI, Bool.true_and, Bool.and_true, Bool.and_self, Option.isNone_some, Option.isSome_some, Option.isNone_none, Option.isSome_none, okO_chI, okA_chI, okL_chI, aLen_chI, hR_chI, ↓reduceIte, not_true_eq_false, not_false_eq_true, eq_self, c10, WRt w, Q181 w q, if_neg y0, if_neg y1, if_neg y2, if_neg y3, if_neg y4, if_neg y5, if_pos y6, Q260 w q, S275 _ _ hs]
      · rw [E106]; simp only [bI_some, bV_some, bR_some, bL_some, ob_some, cd_t, cd_f, cd_d, okO_setI, okA_setI, okL_setI, aLen_setI, hR_setI, hI_setI, Bool.true_and, Bool.and_true, Bool.and_self, Option.isNone_some, Option.isSome_some, Option.isNone_none, Option.isSome_none, okO_chI, okA_chI, okL_chI, aLen_chI, hR_chI, ↓reduceIte, not_true_eq_false, not_false_eq_true, eq_self, c10, Q39 w q, WMd w, if_neg y0, if_neg y1, if_neg y2, if_neg y3, if_neg y4, if_neg y5, if_pos y6, Q105 w q, S37 _ _ hs]
    · refine key (-1000) ?_ ?_
      · rw [E13]; simp only [bI_some, bV_some, bR_some, bL_some, ob_some, cd_t, cd_f, cd_d, okO_setI, okA_setI, okL_setI, aLen_setI, hR_setI, hI_setI, Bool.true_and, Bool.and_true, Bool.and_self, Option.isNone_some, Option.isSome_some, Option.isNone_none, Option.isSome_none, okO_chI, okA_chI, okL_chI, aLen_chI, hR_chI, ↓reduceIte, not_true_eq_false, not_false_eq_true, eq_self, c10, WRt w, Q181 w q, if_neg y0, if_neg y1, if_neg y2, if_neg y3, if_neg y4, if_neg y5, if_neg y6]
      · rw [E106]; simp only [bI_some, bV_some, bR_some, bL_some, ob_some, cd_t, cd_f, cd_d, okO_setI, okA_setI, okL_setI, aLen_setI, hR_setI, hI_setI, Bool.true_and, Bool.and_true, Bool.and_self, Option.isNone_some, Option.isSome_some, Option.isNone_none, Option.isSome_none, okO_chI, okA_chI, okL_chI, aLen_chI, hR_chI, ↓reduceIte, not_true_eq_false, not_false_eq_true, eq_self, c10, Q39 w q, WMd w, if_neg y0, if_neg y1, if_neg y2, if_neg y3, if_neg y4, if_neg y5, if_neg y6]
  · refine ⟨-1000, h, h, ?_, ?_, (WMd w).1, r⟩
    · rw [show DD = 99 + 1 from rfl, E13]; simp only [bI_some, bV_some, bR_some, bL_some, ob_some, cd_t, cd_f, cd_d, okO_setI, okA_setI, okL_setI, aLen_setI, hR_setI, hI_setI, Bool.true_and, Bool.and_true, Bool.and_self, Option.isNone_some, Option.isSome_some, Option.isNone_none, Option.isSome_none, okO_chI, okA_chI, okL_chI, aLen_chI, hR_chI, ↓reduceIte, not_true_eq_false, not_false_eq_true, eq_self, c10, WRt w, N181 w n]
    · rw [show DD = 99 + 1 from rfl, E106]; simp only [bI_some, bV_some, bR_some, bL_some, ob_some, cd_t, cd_f, cd_d, okO_setI, okA_setI, okL_setI, aLen_setI, hR_setI, hI_setI, Bool.true_and, Bool.and_true, Bool.and_self, Option.isNone_some, Option.isSome_some, Option.isNone_none, Option.isSome_none, okO_chI, okA_chI, okL_chI, aLen_chI, hR_chI, ↓reduceIte, not_true_eq_false, not_false_eq_true, eq_self, c10, WMd w, N39 w n]
