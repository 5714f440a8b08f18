/-! the law's loop -/
def DD : Nat := 100
def Pr (Rel : rz_H → Prop) (Mc Mm : Nat) (as : List rz_V) : Prop := ∀ h, Rel h → ∃ v h1 h2, cW DD Mc (rz_r (some 0) :: as) h = some (rz_i v, h1) ∧ cW DD Mm (rz_r (some 109) :: as) h1 = some (rz_i v, h2) ∧ okO h1 109 [10] = true ∧ Rel h2
def PrL (Rel : rz_H → Prop) (Mc Mm : Nat) (as : List rz_V) : Prop := ∀ h, Rel h → ∃ v h1 h2, cW DD Mc (rz_r (some 0) :: as) h = some (rz_l v, h1) ∧ cW DD Mm (rz_r (some 109) :: as) h1 = some (rz_l v, h2) ∧ okO h1 109 [10] = true ∧ Rel h2
theorem nI_p (i : Nat) : nI i + (1 : Int32) = nI (i + 1) ∧ nI i + (2 : Int32) = nI (i + 2) ∧ nI i + (3 : Int32) = nI (i + 3) ∧ nI i + (4 : Int32) = nI (i + 4) ∧ nI i + (5 : Int32) = nI (i + 5) ∧ nI i + (6 : Int32) = nI (i + 6) := ⟨nI_add i 1, nI_add i 2, nI_add i 3, nI_add i 4, nI_add i 5, nI_add i 6⟩
/-- what each pair keeps -/
def AllPr (Rel : rz_H → Prop) : Prop := (∀ x0 x1 x2 x3 x4 : Int32, Pr Rel 1 47 [rz_i x0, rz_i x1, rz_i x2, rz_i x3, rz_i x4]) ∧ (∀ x0 : Int32, Pr Rel 2 70 [rz_i x0]) ∧ (∀ x0 x1 : Int32, Pr Rel 3 79 [rz_i x0, rz_i x1]) ∧ (∀ x0 : Int32, Pr Rel 4 83 [rz_i x0]) ∧ (∀ x0 : Int32, Pr Rel 5 90 [rz_i x0]) ∧ (∀ x0 x1 : Int32, Pr Rel 6 91 [rz_i x0, rz_i x1]) ∧ (∀ x0 x1 : Int32, Pr Rel 7 92 [rz_i x0, rz_i x1]) ∧ (∀ x0 x1 x2 : Int32, Pr Rel 8 93 [rz_i x0, rz_i x1, rz_i x2]) ∧ (∀ x0 x1 : Int32, Pr Rel 9 94 [rz_i x0, rz_i x1]) ∧ (∀ x0 x1 : Int32, Pr Rel 10 95 [rz_i x0, rz_i x1]) ∧ (∀ x0 x1 x2 : Int32, Pr Rel 11 96 [rz_i x0, rz_i x1, rz_i x2]) ∧ (∀ x0 x1 x2 : Int32, Pr Rel 12 97 [rz_i x0, rz_i x1, rz_i (if x2 = 0 then 0 else 1)]) ∧ (∀ x0 x1 : Int32, Pr Rel 13 106 [rz_i x0, rz_i x1]) ∧ (∀ x0 x1 : Int32, Pr Rel 14 107 [rz_i x0, rz_i x1]) ∧ (∀ x0 x1 : Int32, Pr Rel 15 109 [rz_i x0, rz_i x1]) ∧ (∀ x0 x1 : Int32, Pr Rel 16 110 [rz_i x0, rz_i x1]) ∧ (∀ x0 x1 x2 : Int32, Pr Rel 17 111 [rz_i x0, rz_i x1, rz_i x2]) ∧ (∀ x0 x1 : Int32, Pr Rel 18 112 [rz_i x0, rz_i x1]) ∧ (∀ x0 x1 x2 : Int32, Pr Rel 19 114 [rz_i x0, rz_i x1, rz_i x2]) ∧ (∀ x0 x1 : Int32, Pr Rel 20 118 [rz_i x0, rz_i x1]) ∧ (∀ x0 x1 x2 : Int32, Pr Rel 21 120 [rz_i x0, rz_i x1, rz_i x2]) ∧ (∀ x0 : Int32, Pr Rel 22 122 [rz_i x0]) ∧ (∀ x0 : Int32, Pr Rel 23 123 [rz_i x0]) ∧ (∀ x0 x1 x2 : Int32, PrL Rel 24 126 [rz_i x0, rz_i x1, rz_i (if x2 = 0 then 0 else 1)]) ∧ (∀ x0 : Int32, Pr Rel 25 127 [rz_i x0]) ∧ (∀ x0 x1 x2 : Int32, Pr Rel 26 129 [rz_i x0, rz_i x1, rz_i x2]) ∧ (∀ x0 : Int32, Pr Rel 27 130 [rz_i x0]) ∧ (Pr Rel 28 131 []) ∧ (Pr Rel 29 132 []) ∧ (∀ x0 : Int32, Pr Rel 30 133 [rz_i x0]) ∧ (∀ x0 : Int32, Pr Rel 31 134 [rz_i x0])
theorem lg_cmp_self (x : Int64) : lg_cmp x x = 0 := by
  unfold lg_cmp
  simp
def LawAt (L : Nat) (xs : Nat → Int32) (i : Nat) (h : rz_H) : Prop := ∃ h2, lawW DD L xs (10, (0, 0), [some rz_s, some (rz_r (some 0)), some (rz_r (some 109)), some (rz_i (nI i))], [], h) = some (rz_i 1, h2)
theorem law_c0 {Rel : rz_H → Prop} {L i : Nat} {xs : Nat → Int32} {h : rz_H} (h0 : okO h 0 [9] = true) (hL : L ≤ 3072) (hi : i + 6 ≤ L) (hr : Rel h) (hp : Pr Rel 1 47 [rz_i (xs (i + 1)), rz_i (xs (i + 2)), rz_i (xs (i + 3)), rz_i (xs (i + 4)), rz_i (xs (i + 5))]) (ih : ∀ h2, Rel h2 → LawAt L xs (i + 6) h2) : ∃ h2, lawW DD L xs (22, (0, 0), [some rz_s, some (rz_r (some 0)), some (rz_r (some 109)), some (rz_i (nI i))], [], h) = some (rz_i 1, h2) := by
  have q1 : rz_in (nI (i + 1)) L = true := in_nI (by omega) (by omega)
  have k1 : (nI (i + 1)).toNatClampNeg = i + 1 := nI_clamp (by omega)
  have q2 : rz_in (nI (i + 2)) L = true := in_nI (by omega) (by omega)
  have k2 : (nI (i + 2)).toNatClampNeg = i + 2 := nI_clamp (by omega)
  have q3 : rz_in (nI (i + 3)) L = true := in_nI (by omega) (by omega)
  have k3 : (nI (i + 3)).toNatClampNeg = i + 3 := nI_clamp (by omega)
  have q4 : rz_in (nI (i + 4)) L = true := in_nI (by omega) (by omega)
  have k4 : (nI (i + 4)).toNatClampNeg = i + 4 := nI_clamp (by omega)
  have q5 : rz_in (nI (i + 5)) L = true := in_nI (by omega) (by omega)
  have k5 : (nI (i + 5)).toNatClampNeg = i + 5 := nI_clamp (by omega)
  obtain ⟨v, h1, h2, e1, e2, e3, e4⟩ := hp h hr
  obtain ⟨h3, e5⟩ := ih h2 e4
  refine ⟨h3, ?_⟩
  rw [EL_22]
  simp only [bI_some, bV_some, bR_some, bL_some, ob_some, cd_t, cd_f, cd_d, okO_setI, okA_setI, okL_setI, aLen_setI, hR_setI, hI_setI, Bool.true_and, Bool.and_true, Bool.and_self, Option.isNone_some, Option.isSome_some, Option.isNone_none, Option.isSome_none, nI_p i, h0, e3, q1, k1, q2, k2, q3, k3, q4, k4, q5, k5, e1, e2]
  simp only [if_true, EL_856, bI_some, bV_some, bR_some, bL_some, ob_some, cd_t, cd_f, cd_d, okO_setI, okA_setI, okL_setI, aLen_setI, hR_setI, hI_setI, Bool.true_and, Bool.and_true, Bool.and_self, Option.isNone_some, Option.isSome_some, Option.isNone_none, Option.isSome_none, nI_p i, h0, e3, q1, k1, q2, k2, q3, k3, q4, k4, q5, k5]
  exact e5
theorem law_c1 {Rel : rz_H → Prop} {L i : Nat} {xs : Nat → Int32} {h : rz_H} (h0 : okO h 0 [9] = true) (hL : L ≤ 3072) (hi : i + 6 ≤ L) (hr : Rel h) (hp : Pr Rel 2 70 [rz_i (xs (i + 1))]) (ih : ∀ h2, Rel h2 → LawAt L xs (i + 6) h2) : ∃ h2, lawW DD L xs (79, (0, 0), [some rz_s, some (rz_r (some 0)), some (rz_r (some 109)), some (rz_i (nI i))], [], h) = some (rz_i 1, h2) := by
  have q1 : rz_in (nI (i + 1)) L = true := in_nI (by omega) (by omega)
  have k1 : (nI (i + 1)).toNatClampNeg = i + 1 := nI_clamp (by omega)
  obtain ⟨v, h1, h2, e1, e2, e3, e4⟩ := hp h hr
  obtain ⟨h3, e5⟩ := ih h2 e4
  refine ⟨h3, ?_⟩
  rw [EL_79]
  simp only [bI_some, bV_some, bR_some, bL_some, ob_some, cd_t, cd_f, cd_d, okO_setI, okA_setI, okL_setI, aLen_setI, hR_setI, hI_setI, Bool.true_and, Bool.and_true, Bool.and_self, Option.isNone_some, Option.isSome_some, Option.isNone_none, Option.isSome_none, nI_p i, h0, e3, q1, k1, e1, e2]
  simp only [if_true, EL_856, bI_some, bV_some, bR_some, bL_some, ob_some, cd_t, cd_f, cd_d, okO_setI, okA_setI, okL_setI, aLen_setI, hR_setI, hI_setI, Bool.true_and, Bool.and_true, Bool.and_self, Option.isNone_some, Option.isSome_some, Option.isNone_none, Option.isSome_none, nI_p i, h0, e3, q1, k1]
  exact e5
theorem law_c2 {Rel : rz_H → Prop} {L i : Nat} {xs : Nat → Int32} {h : rz_H} (h0 : okO h 0 [9] = true) (hL : L ≤ 3072) (hi : i + 6 ≤ L) (hr : Rel h) (hp : Pr Rel 3 79 [rz_i (xs (i + 1)), rz_i (xs (i + 2))]) (ih : ∀ h2, Rel h2 → LawAt L xs (i + 6) h2) : ∃ h2, lawW DD L xs (96, (0, 0), [some rz_s, some (rz_r (some 0)), some (rz_r (some 109)), some (rz_i (nI i))], [], h) = some (rz_i 1, h2) := by
  have q1 : rz_in (nI (i + 1)) L = true := in_nI (by omega) (by omega)
  have k1 : (nI (i + 1)).toNatClampNeg = i + 1 := nI_clamp (by omega)
  have q2 : rz_in (nI (i + 2)) L = true := in_nI (by omega) (by omega)
  have k2 : (nI (i + 2)).toNatClampNeg = i + 2 := nI_clamp (by omega)
  obtain ⟨v, h1, h2, e1, e2, e3, e4⟩ := hp h hr
  obtain ⟨h3, e5⟩ := ih h2 e4
  refine ⟨h3, ?_⟩
  rw [EL_96]
  simp only [bI_some, bV_some, bR_some, bL_some, ob_some, cd_t, cd_f, cd_d, okO_setI, okA_setI, okL_setI, aLen_setI, hR_setI, hI_setI, Bool.true_and, Bool.and_true, Bool.and_self, Option.isNone_some, Option.isSome_some, Option.isNone_none, Option.isSome_none, nI_p i, h0, e3, q1, k1, q2, k2, e1, e2]
  simp only [if_true, EL_856, bI_some, bV_some, bR_some, bL_some, ob_some, cd_t, cd_f, cd_d, okO_setI, okA_setI, okL_setI, aLen_setI, hR_setI, hI_setI, Bool.true_and, Bool.and_true, Bool.and_self, Option.isNone_some, Option.isSome_some, Option.isNone_none, Option.isSome_none, nI_p i, h0, e3, q1, k1, q2, k2]
  exact e5
theorem law_c3 {Rel : rz_H → Prop} {L i : Nat} {xs : Nat → Int32} {h : rz_H} (h0 : okO h 0 [9] = true) (hL : L ≤ 3072) (hi : i + 6 ≤ L) (hr : Rel h) (hp : Pr Rel 4 83 [rz_i (xs (i + 1))]) (ih : ∀ h2, Rel h2 → LawAt L xs (i + 6) h2) : ∃ h2, lawW DD L xs (123, (0, 0), [some rz_s, some (rz_r (some 0)), some (rz_r (some 109)), some (rz_i (nI i))], [], h) = some (rz_i 1, h2) := by
  have q1 : rz_in (nI (i + 1)) L = true := in_nI (by omega) (by omega)
  have k1 : (nI (i + 1)).toNatClampNeg = i + 1 := nI_clamp (by omega)
  obtain ⟨v, h1, h2, e1, e2, e3, e4⟩ := hp h hr
  obtain ⟨h3, e5⟩ := ih h2 e4
  refine ⟨h3, ?_⟩
  rw [EL_123]
  simp only [bI_some, bV_some, bR_some, bL_some, ob_some, cd_t, cd_f, cd_d, okO_setI, okA_setI, okL_setI, aLen_setI, hR_setI, hI_setI, Bool.true_and, Bool.and_true, Bool.and_self, Option.isNone_some, Option.isSome_some, Option.isNone_none, Option.isSome_none, nI_p i, h0, e3, q1, k1, e1, e2]
  simp only [if_true, EL_856, bI_some, bV_some, bR_some, bL_some, ob_some, cd_t, cd_f, cd_d, okO_setI, okA_setI, okL_setI, aLen_setI, hR_setI, hI_setI, Bool.true_and, Bool.and_true, Bool.and_self, Option.isNone_some, Option.isSome_some, Option.isNone_none, Option.isSome_none, nI_p i, h0, e3, q1, k1]
  exact e5
theorem law_c4 {Rel : rz_H → Prop} {L i : Nat} {xs : Nat → Int32} {h : rz_H} (h0 : okO h 0 [9] = true) (hL : L ≤ 3072) (hi : i + 6 ≤ L) (hr : Rel h) (hp : Pr Rel 5 90 [rz_i (xs (i + 1))]) (ih : ∀ h2, Rel h2 → LawAt L xs (i + 6) h2) : ∃ h2, lawW DD L xs (140, (0, 0), [some rz_s, some (rz_r (some 0)), some (rz_r (some 109)), some (rz_i (nI i))], [], h) = some (rz_i 1, h2) := by
  have q1 : rz_in (nI (i + 1)) L = true := in_nI (by omega) (by omega)
  have k1 : (nI (i + 1)).toNatClampNeg = i + 1 := nI_clamp (by omega)
  obtain ⟨v, h1, h2, e1, e2, e3, e4⟩ := hp h hr
  obtain ⟨h3, e5⟩ := ih h2 e4
  refine ⟨h3, ?_⟩
  rw [EL_140]
  simp only [bI_some, bV_some, bR_some, bL_some, ob_some, cd_t, cd_f, cd_d, okO_setI, okA_setI, okL_setI, aLen_setI, hR_setI, hI_setI, Bool.true_and, Bool.and_true, Bool.and_self, Option.isNone_some, Option.isSome_some, Option.isNone_none, Option.isSome_none, nI_p i, h0, e3, q1, k1, e1, e2]
  simp only [if_true, EL_856, bI_some, bV_some, bR_some, bL_some, ob_some, cd_t, cd_f, cd_d, okO_setI, okA_setI, okL_setI, aLen_setI, hR_setI, hI_setI, Bool.true_and, Bool.and_true, Bool.and_self, Option.isNone_some, Option.isSome_some, Option.isNone_none, Option.isSome_none, nI_p i, h0, e3, q1, k1]
  exact e5
theorem law_c5 {Rel : rz_H → Prop} {L i : Nat} {xs : Nat → Int32} {h : rz_H} (h0 : okO h 0 [9] = true) (hL : L ≤ 3072) (hi : i + 6 ≤ L) (hr : Rel h) (hp : Pr Rel 6 91 [rz_i (xs (i + 1)), rz_i (xs (i + 2))]) (ih : ∀ h2, Rel h2 → LawAt L xs (i + 6) h2) : ∃ h2, lawW DD L xs (157, (0, 0), [some rz_s, some (rz_r (some 0)), some (rz_r (some 109)), some (rz_i (nI i))], [], h) = some (rz_i 1, h2) := by
  have q1 : rz_in (nI (i + 1)) L = true := in_nI (by omega) (by omega)
  have k1 : (nI (i + 1)).toNatClampNeg = i + 1 := nI_clamp (by omega)
  have q2 : rz_in (nI (i + 2)) L = true := in_nI (by omega) (by omega)
  have k2 : (nI (i + 2)).toNatClampNeg = i + 2 := nI_clamp (by omega)
  obtain ⟨v, h1, h2, e1, e2, e3, e4⟩ := hp h hr
  obtain ⟨h3, e5⟩ := ih h2 e4
  refine ⟨h3, ?_⟩
  rw [EL_157]
  simp only [bI_some, bV_some, bR_some, bL_some, ob_some, cd_t, cd_f, cd_d, okO_setI, okA_setI, okL_setI, aLen_setI, hR_setI, hI_setI, Bool.true_and, Bool.and_true, Bool.and_self, Option.isNone_some, Option.isSome_some, Option.isNone_none, Option.isSome_none, nI_p i, h0, e3, q1, k1, q2, k2, e1, e2]
  simp only [if_true, EL_856, bI_some, bV_some, bR_some, bL_some, ob_some, cd_t, cd_f, cd_d, okO_setI, okA_setI, okL_setI, aLen_setI, hR_setI, hI_setI, Bool.true_and, Bool.and_true, Bool.and_self, Option.isNone_some, Option.isSome_some, Option.isNone_none, Option.isSome_none, nI_p i, h0, e3, q1, k1, q2, k2]
  exact e5
theorem law_c6 {Rel : rz_H → Prop} {L i : Nat} {xs : Nat → Int32} {h : rz_H} (h0 : okO h 0 [9] = true) (hL : L ≤ 3072) (hi : i + 6 ≤ L) (hr : Rel h) (hp : Pr Rel 7 92 [rz_i (xs (i + 1)), rz_i (xs (i + 2))]) (ih : ∀ h2, Rel h2 → LawAt L xs (i + 6) h2) : ∃ h2, lawW DD L xs (184, (0, 0), [some rz_s, some (rz_r (some 0)), some (rz_r (some 109)), some (rz_i (nI i))], [], h) = some (rz_i 1, h2) := by
  have q1 : rz_in (nI (i + 1)) L = true := in_nI (by omega) (by omega)
  have k1 : (nI (i + 1)).toNatClampNeg = i + 1 := nI_clamp (by omega)
  have q2 : rz_in (nI (i + 2)) L = true := in_nI (by omega) (by omega)
  have k2 : (nI (i + 2)).toNatClampNeg = i + 2 := nI_clamp (by omega)
  obtain ⟨v, h1, h2, e1, e2, e3, e4⟩ := hp h hr
  obtain ⟨h3, e5⟩ := ih h2 e4
  refine ⟨h3, ?_⟩
  rw [EL_184]
  simp only [bI_some, bV_some, bR_some, bL_some, ob_some, cd_t, cd_f, cd_d, okO_setI, okA_setI, okL_setI, aLen_setI, hR_setI, hI_setI, Bool.true_and, Bool.and_true, Bool.and_self, Option.isNone_some, Option.isSome_some, Option.isNone_none, Option.isSome_none, nI_p i, h0, e3, q1, k1, q2, k2, e1, e2]
  simp only [if_true, EL_856, bI_some, bV_some, bR_some, bL_some, ob_some, cd_t, cd_f, cd_d, okO_setI, okA_setI, okL_setI, aLen_setI, hR_setI, hI_setI, Bool.true_and, Bool.and_true, Bool.and_self, Option.isNone_some, Option.isSome_some, Option.isNone_none, Option.isSome_none, nI_p i, h0, e3, q1, k1, q2, k2]
  exact e5
theorem law_c7 {Rel : rz_H → Prop} {L i : Nat} {xs : Nat → Int32} {h : rz_H} (h0 : okO h 0 [9] = true) (hL : L ≤ 3072) (hi : i + 6 ≤ L) (hr : Rel h) (hp : Pr Rel 8 93 [rz_i (xs (i + 1)), rz_i (xs (i + 2)), rz_i (xs (i + 3))]) (ih : ∀ h2, Rel h2 → LawAt L xs (i + 6) h2) : ∃ h2, lawW DD L xs (211, (0, 0), [some rz_s, some (rz_r (some 0)), some (rz_r (some 109)), some (rz_i (nI i))], [], h) = some (rz_i 1, h2) := by
  have q1 : rz_in (nI (i + 1)) L = true := in_nI (by omega) (by omega)
  have k1 : (nI (i + 1)).toNatClampNeg = i + 1 := nI_clamp (by omega)
  have q2 : rz_in (nI (i + 2)) L = true := in_nI (by omega) (by omega)
  have k2 : (nI (i + 2)).toNatClampNeg = i + 2 := nI_clamp (by omega)
  have q3 : rz_in (nI (i + 3)) L = true := in_nI (by omega) (by omega)
  have k3 : (nI (i + 3)).toNatClampNeg = i + 3 := nI_clamp (by omega)
  obtain ⟨v, h1, h2, e1, e2, e3, e4⟩ := hp h hr
  obtain ⟨h3, e5⟩ := ih h2 e4
  refine ⟨h3, ?_⟩
  rw [EL_211]
  simp only [bI_some, bV_some, bR_some, bL_some, ob_some, cd_t, cd_f, cd_d, okO_setI, okA_setI, okL_setI, aLen_setI, hR_setI, hI_setI, Bool.true_and, Bool.and_true, Bool.and_self, Option.isNone_some, Option.isSome_some, Option.isNone_none, Option.isSome_none, nI_p i, h0, e3, q1, k1, q2, k2, q3, k3, e1, e2]
  simp only [if_true, EL_856, bI_some, bV_some, bR_some, bL_some, ob_some, cd_t, cd_f, cd_d, okO_setI, okA_setI, okL_setI, aLen_setI, hR_setI, hI_setI, Bool.true_and, Bool.and_true, Bool.and_self, Option.isNone_some, Option.isSome_some, Option.isNone_none, Option.isSome_none, nI_p i, h0, e3, q1, k1, q2, k2, q3, k3]
  exact e5
theorem law_c8 {Rel : rz_H → Prop} {L i : Nat} {xs : Nat → Int32} {h : rz_H} (h0 : okO h 0 [9] = true) (hL : L ≤ 3072) (hi : i + 6 ≤ L) (hr : Rel h) (hp : Pr Rel 9 94 [rz_i (xs (i + 1)), rz_i (xs (i + 2))]) (ih : ∀ h2, Rel h2 → LawAt L xs (i + 6) h2) : ∃ h2, lawW DD L xs (248, (0, 0), [some rz_s, some (rz_r (some 0)), some (rz_r (some 109)), some (rz_i (nI i))], [], h) = some (rz_i 1, h2) := by
  have q1 : rz_in (nI (i + 1)) L = true := in_nI (by omega) (by omega)
  have k1 : (nI (i + 1)).toNatClampNeg = i + 1 := nI_clamp (by omega)
  have q2 : rz_in (nI (i + 2)) L = true := in_nI (by omega) (by omega)
  have k2 : (nI (i + 2)).toNatClampNeg = i + 2 := nI_clamp (by omega)
  obtain ⟨v, h1, h2, e1, e2, e3, e4⟩ := hp h hr
  obtain ⟨h3, e5⟩ := ih h2 e4
  refine ⟨h3, ?_⟩
  rw [EL_248]
  simp only [bI_some, bV_some, bR_some, bL_some, ob_some, cd_t, cd_f, cd_d, okO_setI, okA_setI, okL_setI, aLen_setI, hR_setI, hI_setI, Bool.true_and, Bool.and_true, Bool.and_self, Option.isNone_some, Option.isSome_some, Option.isNone_none, Option.isSome_none, nI_p i, h0, e3, q1, k1, q2, k2, e1, e2]
  simp only [if_true, EL_856, bI_some, bV_some, bR_some, bL_some, ob_some, cd_t, cd_f, cd_d, okO_setI, okA_setI, okL_setI, aLen_setI, hR_setI, hI_setI, Bool.true_and, Bool.and_true, Bool.and_self, Option.isNone_some, Option.isSome_some, Option.isNone_none, Option.isSome_none, nI_p i, h0, e3, q1, k1, q2, k2]
  exact e5
theorem law_c9 {Rel : rz_H → Prop} {L i : Nat} {xs : Nat → Int32} {h : rz_H} (h0 : okO h 0 [9] = true) (hL : L ≤ 3072) (hi : i + 6 ≤ L) (hr : Rel h) (hp : Pr Rel 10 95 [rz_i (xs (i + 1)), rz_i (xs (i + 2))]) (ih : ∀ h2, Rel h2 → LawAt L xs (i + 6) h2) : ∃ h2, lawW DD L xs (275, (0, 0), [some rz_s, some (rz_r (some 0)), some (rz_r (some 109)), some (rz_i (nI i))], [], h) = some (rz_i 1, h2) := by
  have q1 : rz_in (nI (i + 1)) L = true := in_nI (by omega) (by omega)
  have k1 : (nI (i + 1)).toNatClampNeg = i + 1 := nI_clamp (by omega)
  have q2 : rz_in (nI (i + 2)) L = true := in_nI (by omega) (by omega)
  have k2 : (nI (i + 2)).toNatClampNeg = i + 2 := nI_clamp (by omega)
  obtain ⟨v, h1, h2, e1, e2, e3, e4⟩ := hp h hr
  obtain ⟨h3, e5⟩ := ih h2 e4
  refine ⟨h3, ?_⟩
  rw [EL_275]
  simp only [bI_some, bV_some, bR_some, bL_some, ob_some, cd_t, cd_f, cd_d, okO_setI, okA_setI, okL_setI, aLen_setI, hR_setI, hI_setI, Bool.true_and, Bool.and_true, Bool.and_self, Option.isNone_some, Option.isSome_some, Option.isNone_none, Option.isSome_none, nI_p i, h0, e3, q1, k1, q2, k2, e1, e2]
  simp only [if_true, EL_856, bI_some, bV_some, bR_some, bL_some, ob_some, cd_t, cd_f, cd_d, okO_setI, okA_setI, okL_setI, aLen_setI, hR_setI, hI_setI, Bool.true_and, Bool.and_true, Bool.and_self, Option.isNone_some, Option.isSome_some, Option.isNone_none, Option.isSome_none, nI_p i, h0, e3, q1, k1, q2, k2]
  exact e5
theorem law_c10 {Rel : rz_H → Prop} {L i : Nat} {xs : Nat → Int32} {h : rz_H} (h0 : okO h 0 [9] = true) (hL : L ≤ 3072) (hi : i + 6 ≤ L) (hr : Rel h) (hp : Pr Rel 11 96 [rz_i (xs (i + 1)), rz_i (xs (i + 2)), rz_i (xs (i + 3))]) (ih : ∀ h2, Rel h2 → LawAt L xs (i + 6) h2) : ∃ h2, lawW DD L xs (302, (0, 0), [some rz_s, some (rz_r (some 0)), some (rz_r (some 109)), some (rz_i (nI i))], [], h) = some (rz_i 1, h2) := by
  have q1 : rz_in (nI (i + 1)) L = true := in_nI (by omega) (by omega)
  have k1 : (nI (i + 1)).toNatClampNeg = i + 1 := nI_clamp (by omega)
  have q2 : rz_in (nI (i + 2)) L = true := in_nI (by omega) (by omega)
  have k2 : (nI (i + 2)).toNatClampNeg = i + 2 := nI_clamp (by omega)
  have q3 : rz_in (nI (i + 3)) L = true := in_nI (by omega) (by omega)
  have k3 : (nI (i + 3)).toNatClampNeg = i + 3 := nI_clamp (by omega)
  obtain ⟨v, h1, h2, e1, e2, e3, e4⟩ := hp h hr
  obtain ⟨h3, e5⟩ := ih h2 e4
  refine ⟨h3, ?_⟩
  rw [EL_302]
  simp only [bI_some, bV_some, bR_some, bL_some, ob_some, cd_t, cd_f, cd_d, okO_setI, okA_setI, okL_setI, aLen_setI, hR_setI, hI_setI, Bool.true_and, Bool.and_true, Bool.and_self, Option.isNone_some, Option.isSome_some, Option.isNone_none, Option.isSome_none, nI_p i, h0, e3, q1, k1, q2, k2, q3, k3, e1, e2]
  simp only [if_true, EL_856, bI_some, bV_some, bR_some, bL_some, ob_some, cd_t, cd_f, cd_d, okO_setI, okA_setI, okL_setI, aLen_setI, hR_setI, hI_setI, Bool.true_and, Bool.and_true, Bool.and_self, Option.isNone_some, Option.isSome_some, Option.isNone_none, Option.isSome_none, nI_p i, h0, e3, q1, k1, q2, k2, q3, k3]
  exact e5
theorem law_c11 {Rel : rz_H → Prop} {L i : Nat} {xs : Nat → Int32} {h : rz_H} (h0 : okO h 0 [9] = true) (hL : L ≤ 3072) (hi : i + 6 ≤ L) (hr : Rel h) (hp : Pr Rel 12 97 [rz_i (xs (i + 1)), rz_i (xs (i + 2)), rz_i (if xs (i + 3) = 0 then 0 else 1)]) (ih : ∀ h2, Rel h2 → LawAt L xs (i + 6) h2) : ∃ h2, lawW DD L xs (339, (0, 0), [some rz_s, some (rz_r (some 0)), some (rz_r (some 109)), some (rz_i (nI i))], [], h) = some (rz_i 1, h2) := by
  have q1 : rz_in (nI (i + 1)) L = true := in_nI (by omega) (by omega)
  have k1 : (nI (i + 1)).toNatClampNeg = i + 1 := nI_clamp (by omega)
  have q2 : rz_in (nI (i + 2)) L = true := in_nI (by omega) (by omega)
  have k2 : (nI (i + 2)).toNatClampNeg = i + 2 := nI_clamp (by omega)
  have q3 : rz_in (nI (i + 3)) L = true := in_nI (by omega) (by omega)
  have k3 : (nI (i + 3)).toNatClampNeg = i + 3 := nI_clamp (by omega)
  obtain ⟨v, h1, h2, e1, e2, e3, e4⟩ := hp h hr
  obtain ⟨h3, e5⟩ := ih h2 e4
  refine ⟨h3, ?_⟩
  rw [EL_339]
  by_cases hz : xs (i + 3) = 0
  · rw [if_pos hz] at e1 e2
    simp only [bI_some, bV_some, bR_some, bL_some, ob_some, cd_t, cd_f, cd_d, okO_setI, okA_setI, okL_setI, aLen_setI, hR_setI, hI_setI, Bool.true_and, Bool.and_true, Bool.and_self, Option.isNone_some, Option.isSome_some, Option.isNone_none, Option.isSome_none, nI_p i, h0, e3, q1, k1, q2, k2, q3, k3, hz, not_true_eq_false, not_false_eq_true, if_true, if_false, e1, e2]
    simp only [lg_cmp_self, if_true, EL_856, bI_some, bV_some, bR_some, bL_some, ob_some, cd_t, cd_f, cd_d, okO_setI, okA_setI, okL_setI, aLen_setI, hR_setI, hI_setI, Bool.true_and, Bool.and_true, Bool.and_self, Option.isNone_some, Option.isSome_some, Option.isNone_none, Option.isSome_none, nI_p i, h0, e3, q1, k1, q2, k2, q3, k3]
    exact e5
  · rw [if_neg hz] at e1 e2
    simp only [bI_some, bV_some, bR_some, bL_some, ob_some, cd_t, cd_f, cd_d, okO_setI, okA_setI, okL_setI, aLen_setI, hR_setI, hI_setI, Bool.true_and, Bool.and_true, Bool.and_self, Option.isNone_some, Option.isSome_some, Option.isNone_none, Option.isSome_none, nI_p i, h0, e3, q1, k1, q2, k2, q3, k3, hz, not_true_eq_false, not_false_eq_true, if_true, if_false, e1, e2]
    simp only [lg_cmp_self, if_true, EL_856, bI_some, bV_some, bR_some, bL_some, ob_some, cd_t, cd_f, cd_d, okO_setI, okA_setI, okL_setI, aLen_setI, hR_setI, hI_setI, Bool.true_and, Bool.and_true, Bool.and_self, Option.isNone_some, Option.isSome_some, Option.isNone_none, Option.isSome_none, nI_p i, h0, e3, q1, k1, q2, k2, q3, k3]
    exact e5
theorem law_c12 {Rel : rz_H → Prop} {L i : Nat} {xs : Nat → Int32} {h : rz_H} (h0 : okO h 0 [9] = true) (hL : L ≤ 3072) (hi : i + 6 ≤ L) (hr : Rel h) (hp : Pr Rel 13 106 [rz_i (xs (i + 1)), rz_i (xs (i + 2))]) (ih : ∀ h2, Rel h2 → LawAt L xs (i + 6) h2) : ∃ h2, lawW DD L xs (384, (0, 0), [some rz_s, some (rz_r (some 0)), some (rz_r (some 109)), some (rz_i (nI i))], [], h) = some (rz_i 1, h2) := by
  have q1 : rz_in (nI (i + 1)) L = true := in_nI (by omega) (by omega)
  have k1 : (nI (i + 1)).toNatClampNeg = i + 1 := nI_clamp (by omega)
  have q2 : rz_in (nI (i + 2)) L = true := in_nI (by omega) (by omega)
  have k2 : (nI (i + 2)).toNatClampNeg = i + 2 := nI_clamp (by omega)
  obtain ⟨v, h1, h2, e1, e2, e3, e4⟩ := hp h hr
  obtain ⟨h3, e5⟩ := ih h2 e4
  refine ⟨h3, ?_⟩
  rw [EL_384]
  simp only [bI_some, bV_some, bR_some, bL_some, ob_some, cd_t, cd_f, cd_d, okO_setI, okA_setI, okL_setI, aLen_setI, hR_setI, hI_setI, Bool.true_and, Bool.and_true, Bool.and_self, Option.isNone_some, Option.isSome_some, Option.isNone_none, Option.isSome_none, nI_p i, h0, e3, q1, k1, q2, k2, e1, e2]
  simp only [if_true, EL_856, bI_some, bV_some, bR_some, bL_some, ob_some, cd_t, cd_f, cd_d, okO_setI, okA_setI, okL_setI, aLen_setI, hR_setI, hI_setI, Bool.true_and, Bool.and_true, Bool.and_self, Option.isNone_some, Option.isSome_some, Option.isNone_none, Option.isSome_none, nI_p i, h0, e3, q1, k1, q2, k2]
  exact e5
theorem law_c13 {Rel : rz_H → Prop} {L i : Nat} {xs : Nat → Int32} {h : rz_H} (h0 : okO h 0 [9] = true) (hL : L ≤ 3072) (hi : i + 6 ≤ L) (hr : Rel h) (hp : Pr Rel 14 107 [rz_i (xs (i + 1)), rz_i (xs (i + 2))]) (ih : ∀ h2, Rel h2 → LawAt L xs (i + 6) h2) : ∃ h2, lawW DD L xs (411, (0, 0), [some rz_s, some (rz_r (some 0)), some (rz_r (some 109)), some (rz_i (nI i))], [], h) = some (rz_i 1, h2) := by
  have q1 : rz_in (nI (i + 1)) L = true := in_nI (by omega) (by omega)
  have k1 : (nI (i + 1)).toNatClampNeg = i + 1 := nI_clamp (by omega)
  have q2 : rz_in (nI (i + 2)) L = true := in_nI (by omega) (by omega)
  have k2 : (nI (i + 2)).toNatClampNeg = i + 2 := nI_clamp (by omega)
  obtain ⟨v, h1, h2, e1, e2, e3, e4⟩ := hp h hr
  obtain ⟨h3, e5⟩ := ih h2 e4
  refine ⟨h3, ?_⟩
  rw [EL_411]
  simp only [bI_some, bV_some, bR_some, bL_some, ob_some, cd_t, cd_f, cd_d, okO_setI, okA_setI, okL_setI, aLen_setI, hR_setI, hI_setI, Bool.true_and, Bool.and_true, Bool.and_self, Option.isNone_some, Option.isSome_some, Option.isNone_none, Option.isSome_none, nI_p i, h0, e3, q1, k1, q2, k2, e1, e2]
  simp only [if_true, EL_856, bI_some, bV_some, bR_some, bL_some, ob_some, cd_t, cd_f, cd_d, okO_setI, okA_setI, okL_setI, aLen_setI, hR_setI, hI_setI, Bool.true_and, Bool.and_true, Bool.and_self, Option.isNone_some, Option.isSome_some, Option.isNone_none, Option.isSome_none, nI_p i, h0, e3, q1, k1, q2, k2]
  exact e5
theorem law_c14 {Rel : rz_H → Prop} {L i : Nat} {xs : Nat → Int32} {h : rz_H} (h0 : okO h 0 [9] = true) (hL : L ≤ 3072) (hi : i + 6 ≤ L) (hr : Rel h) (hp : Pr Rel 15 109 [rz_i (xs (i + 1)), rz_i (xs (i + 2))]) (ih : ∀ h2, Rel h2 → LawAt L xs (i + 6) h2) : ∃ h2, lawW DD L xs (438, (0, 0), [some rz_s, some (rz_r (some 0)), some (rz_r (some 109)), some (rz_i (nI i))], [], h) = some (rz_i 1, h2) := by
  have q1 : rz_in (nI (i + 1)) L = true := in_nI (by omega) (by omega)
  have k1 : (nI (i + 1)).toNatClampNeg = i + 1 := nI_clamp (by omega)
  have q2 : rz_in (nI (i + 2)) L = true := in_nI (by omega) (by omega)
  have k2 : (nI (i + 2)).toNatClampNeg = i + 2 := nI_clamp (by omega)
  obtain ⟨v, h1, h2, e1, e2, e3, e4⟩ := hp h hr
  obtain ⟨h3, e5⟩ := ih h2 e4
  refine ⟨h3, ?_⟩
  rw [EL_438]
  simp only [bI_some, bV_some, bR_some, bL_some, ob_some, cd_t, cd_f, cd_d, okO_setI, okA_setI, okL_setI, aLen_setI, hR_setI, hI_setI, Bool.true_and, Bool.and_true, Bool.and_self, Option.isNone_some, Option.isSome_some, Option.isNone_none, Option.isSome_none, nI_p i, h0, e3, q1, k1, q2, k2, e1, e2]
  simp only [if_true, EL_856, bI_some, bV_some, bR_some, bL_some, ob_some, cd_t, cd_f, cd_d, okO_setI, okA_setI, okL_setI, aLen_setI, hR_setI, hI_setI, Bool.true_and, Bool.and_true, Bool.and_self, Option.isNone_some, Option.isSome_some, Option.isNone_none, Option.isSome_none, nI_p i, h0, e3, q1, k1, q2, k2]
  exact e5
theorem law_c15 {Rel : rz_H → Prop} {L i : Nat} {xs : Nat → Int32} {h : rz_H} (h0 : okO h 0 [9] = true) (hL : L ≤ 3072) (hi : i + 6 ≤ L) (hr : Rel h) (hp : Pr Rel 16 110 [rz_i (xs (i + 1)), rz_i (xs (i + 2))]) (ih : ∀ h2, Rel h2 → LawAt L xs (i + 6) h2) : ∃ h2, lawW DD L xs (465, (0, 0), [some rz_s, some (rz_r (some 0)), some (rz_r (some 109)), some (rz_i (nI i))], [], h) = some (rz_i 1, h2) := by
  have q1 : rz_in (nI (i + 1)) L = true := in_nI (by omega) (by omega)
  have k1 : (nI (i + 1)).toNatClampNeg = i + 1 := nI_clamp (by omega)
  have q2 : rz_in (nI (i + 2)) L = true := in_nI (by omega) (by omega)
  have k2 : (nI (i + 2)).toNatClampNeg = i + 2 := nI_clamp (by omega)
  obtain ⟨v, h1, h2, e1, e2, e3, e4⟩ := hp h hr
  obtain ⟨h3, e5⟩ := ih h2 e4
  refine ⟨h3, ?_⟩
  rw [EL_465]
  simp only [bI_some, bV_some, bR_some, bL_some, ob_some, cd_t, cd_f, cd_d, okO_setI, okA_setI, okL_setI, aLen_setI, hR_setI, hI_setI, Bool.true_and, Bool.and_true, Bool.and_self, Option.isNone_some, Option.isSome_some, Option.isNone_none, Option.isSome_none, nI_p i, h0, e3, q1, k1, q2, k2, e1, e2]
  simp only [if_true, EL_856, bI_some, bV_some, bR_some, bL_some, ob_some, cd_t, cd_f, cd_d, okO_setI, okA_setI, okL_setI, aLen_setI, hR_setI, hI_setI, Bool.true_and, Bool.and_true, Bool.and_self, Option.isNone_some, Option.isSome_some, Option.isNone_none, Option.isSome_none, nI_p i, h0, e3, q1, k1, q2, k2]
  exact e5
theorem law_c16 {Rel : rz_H → Prop} {L i : Nat} {xs : Nat → Int32} {h : rz_H} (h0 : okO h 0 [9] = true) (hL : L ≤ 3072) (hi : i + 6 ≤ L) (hr : Rel h) (hp : Pr Rel 17 111 [rz_i (xs (i + 1)), rz_i (xs (i + 2)), rz_i (xs (i + 3))]) (ih : ∀ h2, Rel h2 → LawAt L xs (i + 6) h2) : ∃ h2, lawW DD L xs (492, (0, 0), [some rz_s, some (rz_r (some 0)), some (rz_r (some 109)), some (rz_i (nI i))], [], h) = some (rz_i 1, h2) := by
  have q1 : rz_in (nI (i + 1)) L = true := in_nI (by omega) (by omega)
  have k1 : (nI (i + 1)).toNatClampNeg = i + 1 := nI_clamp (by omega)
  have q2 : rz_in (nI (i + 2)) L = true := in_nI (by omega) (by omega)
  have k2 : (nI (i + 2)).toNatClampNeg = i + 2 := nI_clamp (by omega)
  have q3 : rz_in (nI (i + 3)) L = true := in_nI (by omega) (by omega)
  have k3 : (nI (i + 3)).toNatClampNeg = i + 3 := nI_clamp (by omega)
  obtain ⟨v, h1, h2, e1, e2, e3, e4⟩ := hp h hr
  obtain ⟨h3, e5⟩ := ih h2 e4
  refine ⟨h3, ?_⟩
  rw [EL_492]
  simp only [bI_some, bV_some, bR_some, bL_some, ob_some, cd_t, cd_f, cd_d, okO_setI, okA_setI, okL_setI, aLen_setI, hR_setI, hI_setI, Bool.true_and, Bool.and_true, Bool.and_self, Option.isNone_some, Option.isSome_some, Option.isNone_none, Option.isSome_none, nI_p i, h0, e3, q1, k1, q2, k2, q3, k3, e1, e2]
  simp only [if_true, EL_856, bI_some, bV_some, bR_some, bL_some, ob_some, cd_t, cd_f, cd_d, okO_setI, okA_setI, okL_setI, aLen_setI, hR_setI, hI_setI, Bool.true_and, Bool.and_true, Bool.and_self, Option.isNone_some, Option.isSome_some, Option.isNone_none, Option.isSome_none, nI_p i, h0, e3, q1, k1, q2, k2, q3, k3]
  exact e5
theorem law_c17 {Rel : rz_H → Prop} {L i : Nat} {xs : Nat → Int32} {h : rz_H} (h0 : okO h 0 [9] = true) (hL : L ≤ 3072) (hi : i + 6 ≤ L) (hr : Rel h) (hp : Pr Rel 18 112 [rz_i (xs (i + 1)), rz_i (xs (i + 2))]) (ih : ∀ h2, Rel h2 → LawAt L xs (i + 6) h2) : ∃ h2, lawW DD L xs (529, (0, 0), [some rz_s, some (rz_r (some 0)), some (rz_r (some 109)), some (rz_i (nI i))], [], h) = some (rz_i 1, h2) := by
  have q1 : rz_in (nI (i + 1)) L = true := in_nI (by omega) (by omega)
  have k1 : (nI (i + 1)).toNatClampNeg = i + 1 := nI_clamp (by omega)
  have q2 : rz_in (nI (i + 2)) L = true := in_nI (by omega) (by omega)
  have k2 : (nI (i + 2)).toNatClampNeg = i + 2 := nI_clamp (by omega)
  obtain ⟨v, h1, h2, e1, e2, e3, e4⟩ := hp h hr
  obtain ⟨h3, e5⟩ := ih h2 e4
  refine ⟨h3, ?_⟩
  rw [EL_529]
  simp only [bI_some, bV_some, bR_some, bL_some, ob_some, cd_t, cd_f, cd_d, okO_setI, okA_setI, okL_setI, aLen_setI, hR_setI, hI_setI, Bool.true_and, Bool.and_true, Bool.and_self, Option.isNone_some, Option.isSome_some, Option.isNone_none, Option.isSome_none, nI_p i, h0, e3, q1, k1, q2, k2, e1, e2]
  simp only [if_true, EL_856, bI_some, bV_some, bR_some, bL_some, ob_some, cd_t, cd_f, cd_d, okO_setI, okA_setI, okL_setI, aLen_setI, hR_setI, hI_setI, Bool.true_and, Bool.and_true, Bool.and_self, Option.isNone_some, Option.isSome_some, Option.isNone_none, Option.isSome_none, nI_p i, h0, e3, q1, k1, q2, k2]
  exact e5
theorem law_c18 {Rel : rz_H → Prop} {L i : Nat} {xs : Nat → Int32} {h : rz_H} (h0 : okO h 0 [9] = true) (hL : L ≤ 3072) (hi : i + 6 ≤ L) (hr : Rel h) (hp : Pr Rel 19 114 [rz_i (xs (i + 1)), rz_i (xs (i + 2)), rz_i (xs (i + 3))]) (ih : ∀ h2, Rel h2 → LawAt L xs (i + 6) h2) : ∃ h2, lawW DD L xs (556, (0, 0), [some rz_s, some (rz_r (some 0)), some (rz_r (some 109)), some (rz_i (nI i))], [], h) = some (rz_i 1, h2) := by
  have q1 : rz_in (nI (i + 1)) L = true := in_nI (by omega) (by omega)
  have k1 : (nI (i + 1)).toNatClampNeg = i + 1 := nI_clamp (by omega)
  have q2 : rz_in (nI (i + 2)) L = true := in_nI (by omega) (by omega)
  have k2 : (nI (i + 2)).toNatClampNeg = i + 2 := nI_clamp (by omega)
  have q3 : rz_in (nI (i + 3)) L = true := in_nI (by omega) (by omega)
  have k3 : (nI (i + 3)).toNatClampNeg = i + 3 := nI_clamp (by omega)
  obtain ⟨v, h1, h2, e1, e2, e3, e4⟩ := hp h hr
  obtain ⟨h3, e5⟩ := ih h2 e4
  refine ⟨h3, ?_⟩
  rw [EL_556]
  simp only [bI_some, bV_some, bR_some, bL_some, ob_some, cd_t, cd_f, cd_d, okO_setI, okA_setI, okL_setI, aLen_setI, hR_setI, hI_setI, Bool.true_and, Bool.and_true, Bool.and_self, Option.isNone_some, Option.isSome_some, Option.isNone_none, Option.isSome_none, nI_p i, h0, e3, q1, k1, q2, k2, q3, k3, e1, e2]
  simp only [if_true, EL_856, bI_some, bV_some, bR_some, bL_some, ob_some, cd_t, cd_f, cd_d, okO_setI, okA_setI, okL_setI, aLen_setI, hR_setI, hI_setI, Bool.true_and, Bool.and_true, Bool.and_self, Option.isNone_some, Option.isSome_some, Option.isNone_none, Option.isSome_none, nI_p i, h0, e3, q1, k1, q2, k2, q3, k3]
  exact e5
theorem law_c19 {Rel : rz_H → Prop} {L i : Nat} {xs : Nat → Int32} {h : rz_H} (h0 : okO h 0 [9] = true) (hL : L ≤ 3072) (hi : i + 6 ≤ L) (hr : Rel h) (hp : Pr Rel 20 118 [rz_i (xs (i + 1)), rz_i (xs (i + 2))]) (ih : ∀ h2, Rel h2 → LawAt L xs (i + 6) h2) : ∃ h2, lawW DD L xs (593, (0, 0), [some rz_s, some (rz_r (some 0)), some (rz_r (some 109)), some (rz_i (nI i))], [], h) = some (rz_i 1, h2) := by
  have q1 : rz_in (nI (i + 1)) L = true := in_nI (by omega) (by omega)
  have k1 : (nI (i + 1)).toNatClampNeg = i + 1 := nI_clamp (by omega)
  have q2 : rz_in (nI (i + 2)) L = true := in_nI (by omega) (by omega)
  have k2 : (nI (i + 2)).toNatClampNeg = i + 2 := nI_clamp (by omega)
  obtain ⟨v, h1, h2, e1, e2, e3, e4⟩ := hp h hr
  obtain ⟨h3, e5⟩ := ih h2 e4
  refine ⟨h3, ?_⟩
  rw [EL_593]
  simp only [bI_some, bV_some, bR_some, bL_some, ob_some, cd_t, cd_f, cd_d, okO_setI, okA_setI, okL_setI, aLen_setI, hR_setI, hI_setI, Bool.true_and, Bool.and_true, Bool.and_self, Option.isNone_some, Option.isSome_some, Option.isNone_none, Option.isSome_none, nI_p i, h0, e3, q1, k1, q2, k2, e1, e2]
  simp only [if_true, EL_856, bI_some, bV_some, bR_some, bL_some, ob_some, cd_t, cd_f, cd_d, okO_setI, okA_setI, okL_setI, aLen_setI, hR_setI, hI_setI, Bool.true_and, Bool.and_true, Bool.and_self, Option.isNone_some, Option.isSome_some, Option.isNone_none, Option.isSome_none, nI_p i, h0, e3, q1, k1, q2, k2]
  exact e5
theorem law_c20 {Rel : rz_H → Prop} {L i : Nat} {xs : Nat → Int32} {h : rz_H} (h0 : okO h 0 [9] = true) (hL : L ≤ 3072) (hi : i + 6 ≤ L) (hr : Rel h) (hp : Pr Rel 21 120 [rz_i (xs (i + 1)), rz_i (xs (i + 2)), rz_i (xs (i + 3))]) (ih : ∀ h2, Rel h2 → LawAt L xs (i + 6) h2) : ∃ h2, lawW DD L xs (620, (0, 0), [some rz_s, some (rz_r (some 0)), some (rz_r (some 109)), some (rz_i (nI i))], [], h) = some (rz_i 1, h2) := by
  have q1 : rz_in (nI (i + 1)) L = true := in_nI (by omega) (by omega)
  have k1 : (nI (i + 1)).toNatClampNeg = i + 1 := nI_clamp (by omega)
  have q2 : rz_in (nI (i + 2)) L = true := in_nI (by omega) (by omega)
  have k2 : (nI (i + 2)).toNatClampNeg = i + 2 := nI_clamp (by omega)
  have q3 : rz_in (nI (i + 3)) L = true := in_nI (by omega) (by omega)
  have k3 : (nI (i + 3)).toNatClampNeg = i + 3 := nI_clamp (by omega)
  obtain ⟨v, h1, h2, e1, e2, e3, e4⟩ := hp h hr
  obtain ⟨h3, e5⟩ := ih h2 e4
  refine ⟨h3, ?_⟩
  rw [EL_620]
  simp only [bI_some, bV_some, bR_some, bL_some, ob_some, cd_t, cd_f, cd_d, okO_setI, okA_setI, okL_setI, aLen_setI, hR_setI, hI_setI, Bool.true_and, Bool.and_true, Bool.and_self, Option.isNone_some, Option.isSome_some, Option.isNone_none, Option.isSome_none, nI_p i, h0, e3, q1, k1, q2, k2, q3, k3, e1, e2]
  simp only [if_true, EL_856, bI_some, bV_some, bR_some, bL_some, ob_some, cd_t, cd_f, cd_d, okO_setI, okA_setI, okL_setI, aLen_setI, hR_setI, hI_setI, Bool.true_and, Bool.and_true, Bool.and_self, Option.isNone_some, Option.isSome_some, Option.isNone_none, Option.isSome_none, nI_p i, h0, e3, q1, k1, q2, k2, q3, k3]
  exact e5
theorem law_c21 {Rel : rz_H → Prop} {L i : Nat} {xs : Nat → Int32} {h : rz_H} (h0 : okO h 0 [9] = true) (hL : L ≤ 3072) (hi : i + 6 ≤ L) (hr : Rel h) (hp : Pr Rel 22 122 [rz_i (xs (i + 1))]) (ih : ∀ h2, Rel h2 → LawAt L xs (i + 6) h2) : ∃ h2, lawW DD L xs (657, (0, 0), [some rz_s, some (rz_r (some 0)), some (rz_r (some 109)), some (rz_i (nI i))], [], h) = some (rz_i 1, h2) := by
  have q1 : rz_in (nI (i + 1)) L = true := in_nI (by omega) (by omega)
  have k1 : (nI (i + 1)).toNatClampNeg = i + 1 := nI_clamp (by omega)
  obtain ⟨v, h1, h2, e1, e2, e3, e4⟩ := hp h hr
  obtain ⟨h3, e5⟩ := ih h2 e4
  refine ⟨h3, ?_⟩
  rw [EL_657]
  simp only [bI_some, bV_some, bR_some, bL_some, ob_some, cd_t, cd_f, cd_d, okO_setI, okA_setI, okL_setI, aLen_setI, hR_setI, hI_setI, Bool.true_and, Bool.and_true, Bool.and_self, Option.isNone_some, Option.isSome_some, Option.isNone_none, Option.isSome_none, nI_p i, h0, e3, q1, k1, e1, e2]
  simp only [if_true, EL_856, bI_some, bV_some, bR_some, bL_some, ob_some, cd_t, cd_f, cd_d, okO_setI, okA_setI, okL_setI, aLen_setI, hR_setI, hI_setI, Bool.true_and, Bool.and_true, Bool.and_self, Option.isNone_some, Option.isSome_some, Option.isNone_none, Option.isSome_none, nI_p i, h0, e3, q1, k1]
  exact e5
theorem law_c22 {Rel : rz_H → Prop} {L i : Nat} {xs : Nat → Int32} {h : rz_H} (h0 : okO h 0 [9] = true) (hL : L ≤ 3072) (hi : i + 6 ≤ L) (hr : Rel h) (hp : Pr Rel 23 123 [rz_i (xs (i + 1))]) (ih : ∀ h2, Rel h2 → LawAt L xs (i + 6) h2) : ∃ h2, lawW DD L xs (674, (0, 0), [some rz_s, some (rz_r (some 0)), some (rz_r (some 109)), some (rz_i (nI i))], [], h) = some (rz_i 1, h2) := by
  have q1 : rz_in (nI (i + 1)) L = true := in_nI (by omega) (by omega)
  have k1 : (nI (i + 1)).toNatClampNeg = i + 1 := nI_clamp (by omega)
  obtain ⟨v, h1, h2, e1, e2, e3, e4⟩ := hp h hr
  obtain ⟨h3, e5⟩ := ih h2 e4
  refine ⟨h3, ?_⟩
  rw [EL_674]
  simp only [bI_some, bV_some, bR_some, bL_some, ob_some, cd_t, cd_f, cd_d, okO_setI, okA_setI, okL_setI, aLen_setI, hR_setI, hI_setI, Bool.true_and, Bool.and_true, Bool.and_self, Option.isNone_some, Option.isSome_some, Option.isNone_none, Option.isSome_none, nI_p i, h0, e3, q1, k1, e1, e2]
  simp only [if_true, EL_856, bI_some, bV_some, bR_some, bL_some, ob_some, cd_t, cd_f, cd_d, okO_setI, okA_setI, okL_setI, aLen_setI, hR_setI, hI_setI, Bool.true_and, Bool.and_true, Bool.and_self, Option.isNone_some, Option.isSome_some, Option.isNone_none, Option.isSome_none, nI_p i, h0, e3, q1, k1]
  exact e5
theorem law_c23 {Rel : rz_H → Prop} {L i : Nat} {xs : Nat → Int32} {h : rz_H} (h0 : okO h 0 [9] = true) (hL : L ≤ 3072) (hi : i + 6 ≤ L) (hr : Rel h) (hp : PrL Rel 24 126 [rz_i (xs (i + 1)), rz_i (xs (i + 2)), rz_i (if xs (i + 3) = 0 then 0 else 1)]) (ih : ∀ h2, Rel h2 → LawAt L xs (i + 6) h2) : ∃ h2, lawW DD L xs (691, (0, 0), [some rz_s, some (rz_r (some 0)), some (rz_r (some 109)), some (rz_i (nI i))], [], h) = some (rz_i 1, h2) := by
  have q1 : rz_in (nI (i + 1)) L = true := in_nI (by omega) (by omega)
  have k1 : (nI (i + 1)).toNatClampNeg = i + 1 := nI_clamp (by omega)
  have q2 : rz_in (nI (i + 2)) L = true := in_nI (by omega) (by omega)
  have k2 : (nI (i + 2)).toNatClampNeg = i + 2 := nI_clamp (by omega)
  have q3 : rz_in (nI (i + 3)) L = true := in_nI (by omega) (by omega)
  have k3 : (nI (i + 3)).toNatClampNeg = i + 3 := nI_clamp (by omega)
  obtain ⟨v, h1, h2, e1, e2, e3, e4⟩ := hp h hr
  obtain ⟨h3, e5⟩ := ih h2 e4
  refine ⟨h3, ?_⟩
  rw [EL_691]
  by_cases hz : xs (i + 3) = 0
  · rw [if_pos hz] at e1 e2
    simp only [bI_some, bV_some, bR_some, bL_some, ob_some, cd_t, cd_f, cd_d, okO_setI, okA_setI, okL_setI, aLen_setI, hR_setI, hI_setI, Bool.true_and, Bool.and_true, Bool.and_self, Option.isNone_some, Option.isSome_some, Option.isNone_none, Option.isSome_none, nI_p i, h0, e3, q1, k1, q2, k2, q3, k3, hz, not_true_eq_false, not_false_eq_true, if_true, if_false, e1, e2]
    simp only [lg_cmp_self, if_true, EL_856, bI_some, bV_some, bR_some, bL_some, ob_some, cd_t, cd_f, cd_d, okO_setI, okA_setI, okL_setI, aLen_setI, hR_setI, hI_setI, Bool.true_and, Bool.and_true, Bool.and_self, Option.isNone_some, Option.isSome_some, Option.isNone_none, Option.isSome_none, nI_p i, h0, e3, q1, k1, q2, k2, q3, k3]
    exact e5
  · rw [if_neg hz] at e1 e2
    simp only [bI_some, bV_some, bR_some, bL_some, ob_some, cd_t, cd_f, cd_d, okO_setI, okA_setI, okL_setI, aLen_setI, hR_setI, hI_setI, Bool.true_and, Bool.and_true, Bool.and_self, Option.isNone_some, Option.isSome_some, Option.isNone_none, Option.isSome_none, nI_p i, h0, e3, q1, k1, q2, k2, q3, k3, hz, not_true_eq_false, not_false_eq_true, if_true, if_false, e1, e2]
    simp only [lg_cmp_self, if_true, EL_856, bI_some, bV_some, bR_some, bL_some, ob_some, cd_t, cd_f, cd_d, okO_setI, okA_setI, okL_setI, aLen_setI, hR_setI, hI_setI, Bool.true_and, Bool.and_true, Bool.and_self, Option.isNone_some, Option.isSome_some, Option.isNone_none, Option.isSome_none, nI_p i, h0, e3, q1, k1, q2, k2, q3, k3]
    exact e5
theorem law_c24 {Rel : rz_H → Prop} {L i : Nat} {xs : Nat → Int32} {h : rz_H} (h0 : okO h 0 [9] = true) (hL : L ≤ 3072) (hi : i + 6 ≤ L) (hr : Rel h) (hp : Pr Rel 25 127 [rz_i (xs (i + 1))]) (ih : ∀ h2, Rel h2 → LawAt L xs (i + 6) h2) : ∃ h2, lawW DD L xs (737, (0, 0), [some rz_s, some (rz_r (some 0)), some (rz_r (some 109)), some (rz_i (nI i))], [], h) = some (rz_i 1, h2) := by
  have q1 : rz_in (nI (i + 1)) L = true := in_nI (by omega) (by omega)
  have k1 : (nI (i + 1)).toNatClampNeg = i + 1 := nI_clamp (by omega)
  obtain ⟨v, h1, h2, e1, e2, e3, e4⟩ := hp h hr
  obtain ⟨h3, e5⟩ := ih h2 e4
  refine ⟨h3, ?_⟩
  rw [EL_737]
  simp only [bI_some, bV_some, bR_some, bL_some, ob_some, cd_t, cd_f, cd_d, okO_setI, okA_setI, okL_setI, aLen_setI, hR_setI, hI_setI, Bool.true_and, Bool.and_true, Bool.and_self, Option.isNone_some, Option.isSome_some, Option.isNone_none, Option.isSome_none, nI_p i, h0, e3, q1, k1, e1, e2]
  simp only [if_true, EL_856, bI_some, bV_some, bR_some, bL_some, ob_some, cd_t, cd_f, cd_d, okO_setI, okA_setI, okL_setI, aLen_setI, hR_setI, hI_setI, Bool.true_and, Bool.and_true, Bool.and_self, Option.isNone_some, Option.isSome_some, Option.isNone_none, Option.isSome_none, nI_p i, h0, e3, q1, k1]
  exact e5
theorem law_c25 {Rel : rz_H → Prop} {L i : Nat} {xs : Nat → Int32} {h : rz_H} (h0 : okO h 0 [9] = true) (hL : L ≤ 3072) (hi : i + 6 ≤ L) (hr : Rel h) (hp : Pr Rel 26 129 [rz_i (xs (i + 1)), rz_i (xs (i + 2)), rz_i (xs (i + 3))]) (ih : ∀ h2, Rel h2 → LawAt L xs (i + 6) h2) : ∃ h2, lawW DD L xs (754, (0, 0), [some rz_s, some (rz_r (some 0)), some (rz_r (some 109)), some (rz_i (nI i))], [], h) = some (rz_i 1, h2) := by
  have q1 : rz_in (nI (i + 1)) L = true := in_nI (by omega) (by omega)
  have k1 : (nI (i + 1)).toNatClampNeg = i + 1 := nI_clamp (by omega)
  have q2 : rz_in (nI (i + 2)) L = true := in_nI (by omega) (by omega)
  have k2 : (nI (i + 2)).toNatClampNeg = i + 2 := nI_clamp (by omega)
  have q3 : rz_in (nI (i + 3)) L = true := in_nI (by omega) (by omega)
  have k3 : (nI (i + 3)).toNatClampNeg = i + 3 := nI_clamp (by omega)
  obtain ⟨v, h1, h2, e1, e2, e3, e4⟩ := hp h hr
  obtain ⟨h3, e5⟩ := ih h2 e4
  refine ⟨h3, ?_⟩
  rw [EL_754]
  simp only [bI_some, bV_some, bR_some, bL_some, ob_some, cd_t, cd_f, cd_d, okO_setI, okA_setI, okL_setI, aLen_setI, hR_setI, hI_setI, Bool.true_and, Bool.and_true, Bool.and_self, Option.isNone_some, Option.isSome_some, Option.isNone_none, Option.isSome_none, nI_p i, h0, e3, q1, k1, q2, k2, q3, k3, e1, e2]
  simp only [if_true, EL_856, bI_some, bV_some, bR_some, bL_some, ob_some, cd_t, cd_f, cd_d, okO_setI, okA_setI, okL_setI, aLen_setI, hR_setI, hI_setI, Bool.true_and, Bool.and_true, Bool.and_self, Option.isNone_some, Option.isSome_some, Option.isNone_none, Option.isSome_none, nI_p i, h0, e3, q1, k1, q2, k2, q3, k3]
  exact e5
theorem law_c26 {Rel : rz_H → Prop} {L i : Nat} {xs : Nat → Int32} {h : rz_H} (h0 : okO h 0 [9] = true) (hL : L ≤ 3072) (hi : i + 6 ≤ L) (hr : Rel h) (hp : Pr Rel 27 130 [rz_i (xs (i + 1))]) (ih : ∀ h2, Rel h2 → LawAt L xs (i + 6) h2) : ∃ h2, lawW DD L xs (791, (0, 0), [some rz_s, some (rz_r (some 0)), some (rz_r (some 109)), some (rz_i (nI i))], [], h) = some (rz_i 1, h2) := by
  have q1 : rz_in (nI (i + 1)) L = true := in_nI (by omega) (by omega)
  have k1 : (nI (i + 1)).toNatClampNeg = i + 1 := nI_clamp (by omega)
  obtain ⟨v, h1, h2, e1, e2, e3, e4⟩ := hp h hr
  obtain ⟨h3, e5⟩ := ih h2 e4
  refine ⟨h3, ?_⟩
  rw [EL_791]
  simp only [bI_some, bV_some, bR_some, bL_some, ob_some, cd_t, cd_f, cd_d, okO_setI, okA_setI, okL_setI, aLen_setI, hR_setI, hI_setI, Bool.true_and, Bool.and_true, Bool.and_self, Option.isNone_some, Option.isSome_some, Option.isNone_none, Option.isSome_none, nI_p i, h0, e3, q1, k1, e1, e2]
  simp only [if_true, EL_856, bI_some, bV_some, bR_some, bL_some, ob_some, cd_t, cd_f, cd_d, okO_setI, okA_setI, okL_setI, aLen_setI, hR_setI, hI_setI, Bool.true_and, Bool.and_true, Bool.and_self, Option.isNone_some, Option.isSome_some, Option.isNone_none, Option.isSome_none, nI_p i, h0, e3, q1, k1]
  exact e5
theorem law_c27 {Rel : rz_H → Prop} {L i : Nat} {xs : Nat → Int32} {h : rz_H} (h0 : okO h 0 [9] = true) (hL : L ≤ 3072) (hi : i + 6 ≤ L) (hr : Rel h) (hp : Pr Rel 28 131 []) (ih : ∀ h2, Rel h2 → LawAt L xs (i + 6) h2) : ∃ h2, lawW DD L xs (808, (0, 0), [some rz_s, some (rz_r (some 0)), some (rz_r (some 109)), some (rz_i (nI i))], [], h) = some (rz_i 1, h2) := by
  obtain ⟨v, h1, h2, e1, e2, e3, e4⟩ := hp h hr
  obtain ⟨h3, e5⟩ := ih h2 e4
  refine ⟨h3, ?_⟩
  rw [EL_808]
  simp only [bI_some, bV_some, bR_some, bL_some, ob_some, cd_t, cd_f, cd_d, okO_setI, okA_setI, okL_setI, aLen_setI, hR_setI, hI_setI, Bool.true_and, Bool.and_true, Bool.and_self, Option.isNone_some, Option.isSome_some, Option.isNone_none, Option.isSome_none, nI_p i, h0, e3, e1, e2]
  simp only [if_true, EL_856, bI_some, bV_some, bR_some, bL_some, ob_some, cd_t, cd_f, cd_d, okO_setI, okA_setI, okL_setI, aLen_setI, hR_setI, hI_setI, Bool.true_and, Bool.and_true, Bool.and_self, Option.isNone_some, Option.isSome_some, Option.isNone_none, Option.isSome_none, nI_p i, h0, e3]
  exact e5
theorem law_c28 {Rel : rz_H → Prop} {L i : Nat} {xs : Nat → Int32} {h : rz_H} (h0 : okO h 0 [9] = true) (hL : L ≤ 3072) (hi : i + 6 ≤ L) (hr : Rel h) (hp : Pr Rel 29 132 []) (ih : ∀ h2, Rel h2 → LawAt L xs (i + 6) h2) : ∃ h2, lawW DD L xs (815, (0, 0), [some rz_s, some (rz_r (some 0)), some (rz_r (some 109)), some (rz_i (nI i))], [], h) = some (rz_i 1, h2) := by
  obtain ⟨v, h1, h2, e1, e2, e3, e4⟩ := hp h hr
  obtain ⟨h3, e5⟩ := ih h2 e4
  refine ⟨h3, ?_⟩
  rw [EL_815]
  simp only [bI_some, bV_some, bR_some, bL_some, ob_some, cd_t, cd_f, cd_d, okO_setI, okA_setI, okL_setI, aLen_setI, hR_setI, hI_setI, Bool.true_and, Bool.and_true, Bool.and_self, Option.isNone_some, Option.isSome_some, Option.isNone_none, Option.isSome_none, nI_p i, h0, e3, e1, e2]
  simp only [if_true, EL_856, bI_some, bV_some, bR_some, bL_some, ob_some, cd_t, cd_f, cd_d, okO_setI, okA_setI, okL_setI, aLen_setI, hR_setI, hI_setI, Bool.true_and, Bool.and_true, Bool.and_self, Option.isNone_some, Option.isSome_some, Option.isNone_none, Option.isSome_none, nI_p i, h0, e3]
  exact e5
theorem law_c29 {Rel : rz_H → Prop} {L i : Nat} {xs : Nat → Int32} {h : rz_H} (h0 : okO h 0 [9] = true) (hL : L ≤ 3072) (hi : i + 6 ≤ L) (hr : Rel h) (hp : Pr Rel 30 133 [rz_i (xs (i + 1))]) (ih : ∀ h2, Rel h2 → LawAt L xs (i + 6) h2) : ∃ h2, lawW DD L xs (822, (0, 0), [some rz_s, some (rz_r (some 0)), some (rz_r (some 109)), some (rz_i (nI i))], [], h) = some (rz_i 1, h2) := by
  have q1 : rz_in (nI (i + 1)) L = true := in_nI (by omega) (by omega)
  have k1 : (nI (i + 1)).toNatClampNeg = i + 1 := nI_clamp (by omega)
  obtain ⟨v, h1, h2, e1, e2, e3, e4⟩ := hp h hr
  obtain ⟨h3, e5⟩ := ih h2 e4
  refine ⟨h3, ?_⟩
  rw [EL_822]
  simp only [bI_some, bV_some, bR_some, bL_some, ob_some, cd_t, cd_f, cd_d, okO_setI, okA_setI, okL_setI, aLen_setI, hR_setI, hI_setI, Bool.true_and, Bool.and_true, Bool.and_self, Option.isNone_some, Option.isSome_some, Option.isNone_none, Option.isSome_none, nI_p i, h0, e3, q1, k1, e1, e2]
  simp only [if_true, EL_856, bI_some, bV_some, bR_some, bL_some, ob_some, cd_t, cd_f, cd_d, okO_setI, okA_setI, okL_setI, aLen_setI, hR_setI, hI_setI, Bool.true_and, Bool.and_true, Bool.and_self, Option.isNone_some, Option.isSome_some, Option.isNone_none, Option.isSome_none, nI_p i, h0, e3, q1, k1]
  exact e5
theorem law_c30 {Rel : rz_H → Prop} {L i : Nat} {xs : Nat → Int32} {h : rz_H} (h0 : okO h 0 [9] = true) (hL : L ≤ 3072) (hi : i + 6 ≤ L) (hr : Rel h) (hp : Pr Rel 31 134 [rz_i (xs (i + 1))]) (ih : ∀ h2, Rel h2 → LawAt L xs (i + 6) h2) : ∃ h2, lawW DD L xs (839, (0, 0), [some rz_s, some (rz_r (some 0)), some (rz_r (some 109)), some (rz_i (nI i))], [], h) = some (rz_i 1, h2) := by
  have q1 : rz_in (nI (i + 1)) L = true := in_nI (by omega) (by omega)
  have k1 : (nI (i + 1)).toNatClampNeg = i + 1 := nI_clamp (by omega)
  obtain ⟨v, h1, h2, e1, e2, e3, e4⟩ := hp h hr
  obtain ⟨h3, e5⟩ := ih h2 e4
  refine ⟨h3, ?_⟩
  rw [EL_839]
  simp only [bI_some, bV_some, bR_some, bL_some, ob_some, cd_t, cd_f, cd_d, okO_setI, okA_setI, okL_setI, aLen_setI, hR_setI, hI_setI, Bool.true_and, Bool.and_true, Bool.and_self, Option.isNone_some, Option.isSome_some, Option.isNone_none, Option.isSome_none, nI_p i, h0, e3, q1, k1, e1, e2]
  simp only [if_true, EL_856, bI_some, bV_some, bR_some, bL_some, ob_some, cd_t, cd_f, cd_d, okO_setI, okA_setI, okL_setI, aLen_setI, hR_setI, hI_setI, Bool.true_and, Bool.and_true, Bool.and_self, Option.isNone_some, Option.isSome_some, Option.isNone_none, Option.isSome_none, nI_p i, h0, e3, q1, k1]
  exact e5
theorem law_loop {Rel : rz_H → Prop} (hR : ∀ h, Rel h → okO h 0 [9] = true) (hA : AllPr Rel) {L : Nat} (hL : L ≤ 3072) (xs : Nat → Int32) : ∀ (n i : Nat) (h : rz_H), L + 6 - i ≤ n → i ≤ L + 6 → Rel h → LawAt L xs i h
  | 0, i, h, hn, hi, hr => by
    refine ⟨h, ?_⟩
    rw [EL_10]
    simp only [bI_some, bV_some, bR_some, bL_some, ob_some, cd_t, cd_f, cd_d, okO_setI, okA_setI, okL_setI, aLen_setI, hR_setI, hI_setI, Bool.true_and, Bool.and_true, Bool.and_self, Option.isNone_some, Option.isSome_some, Option.isNone_none, Option.isSome_none]
    rw [if_pos]
    rw [Int32.lt_iff_toInt_lt, Int32.toInt_sub, show (Int32.ofNat L).toInt = (L : Int) from nI_toInt (by omega), show (6 : Int32).toInt = 6 from rfl, nI_toInt (by omega), Int.bmod_eq_of_le (by omega) (by omega)]
    omega
  | n + 1, i, h, hn, hi, hr => by
    by_cases hx : i + 6 ≤ L
    · have h0 := hR h hr
      have ih : ∀ h2, Rel h2 → LawAt L xs (i + 6) h2 := fun h2 r2 => law_loop hR hA hL xs n (i + 6) h2 (by omega) (by omega) r2
      obtain ⟨p0, p1, p2, p3, p4, p5, p6, p7, p8, p9, p10, p11, p12, p13, p14, p15, p16, p17, p18, p19, p20, p21, p22, p23, p24, p25, p26, p27, p28, p29, p30⟩ := hA
      have q0 : rz_in (nI i) L = true := in_nI (by omega) (by omega)
      have k0 : (nI i).toNatClampNeg = i := nI_clamp (by omega)
      have hc : ¬ Int32.ofNat L - 6 < nI i := by
        rw [Int32.lt_iff_toInt_lt, Int32.toInt_sub, show (Int32.ofNat L).toInt = (L : Int) from nI_toInt (by omega), show (6 : Int32).toInt = 6 from rfl, nI_toInt (by omega), Int.bmod_eq_of_le (by omega) (by omega)]
        omega
      unfold LawAt
      rw [EL_10]
      simp only [bI_some, bV_some, bR_some, bL_some, ob_some, cd_t, cd_f, cd_d, okO_setI, okA_setI, okL_setI, aLen_setI, hR_setI, hI_setI, Bool.true_and, Bool.and_true, Bool.and_self, Option.isNone_some, Option.isSome_some, Option.isNone_none, Option.isSome_none, q0, k0, if_neg hc]
      by_cases c0 : xs i &&& 31 = Int32.ofNat 0
      · rw [if_pos c0]; exact law_c0 h0 hL hx hr (p0 (xs (i + 1)) (xs (i + 2)) (xs (i + 3)) (xs (i + 4)) (xs (i + 5))) ih
      rw [if_neg c0]
      by_cases c1 : xs i &&& 31 = Int32.ofNat 1
      · rw [if_pos c1]; exact law_c1 h0 hL hx hr (p1 (xs (i + 1))) ih
      rw [if_neg c1]
      by_cases c2 : xs i &&& 31 = Int32.ofNat 2
      · rw [if_pos c2]; exact law_c2 h0 hL hx hr (p2 (xs (i + 1)) (xs (i + 2))) ih
      rw [if_neg c2]
      by_cases c3 : xs i &&& 31 = Int32.ofNat 3
      · rw [if_pos c3]; exact law_c3 h0 hL hx hr (p3 (xs (i + 1))) ih
      rw [if_neg c3]
      by_cases c4 : xs i &&& 31 = Int32.ofNat 4
      · rw [if_pos c4]; exact law_c4 h0 hL hx hr (p4 (xs (i + 1))) ih
      rw [if_neg c4]
      by_cases c5 : xs i &&& 31 = Int32.ofNat 5
      · rw [if_pos c5]; exact law_c5 h0 hL hx hr (p5 (xs (i + 1)) (xs (i + 2))) ih
      rw [if_neg c5]
      by_cases c6 : xs i &&& 31 = Int32.ofNat 6
      · rw [if_pos c6]; exact law_c6 h0 hL hx hr (p6 (xs (i + 1)) (xs (i + 2))) ih
      rw [if_neg c6]
      by_cases c7 : xs i &&& 31 = Int32.ofNat 7
      · rw [if_pos c7]; exact law_c7 h0 hL hx hr (p7 (xs (i + 1)) (xs (i + 2)) (xs (i + 3))) ih
      rw [if_neg c7]
      by_cases c8 : xs i &&& 31 = Int32.ofNat 8
      · rw [if_pos c8]; exact law_c8 h0 hL hx hr (p8 (xs (i + 1)) (xs (i + 2))) ih
      rw [if_neg c8]
      by_cases c9 : xs i &&& 31 = Int32.ofNat 9
      · rw [if_pos c9]; exact law_c9 h0 hL hx hr (p9 (xs (i + 1)) (xs (i + 2))) ih
      rw [if_neg c9]
      by_cases c10 : xs i &&& 31 = Int32.ofNat 10
      · rw [if_pos c10]; exact law_c10 h0 hL hx hr (p10 (xs (i + 1)) (xs (i + 2)) (xs (i + 3))) ih
      rw [if_neg c10]
      by_cases c11 : xs i &&& 31 = Int32.ofNat 11
      · rw [if_pos c11]; exact law_c11 h0 hL hx hr (p11 (xs (i + 1)) (xs (i + 2)) (xs (i + 3))) ih
      rw [if_neg c11]
      by_cases c12 : xs i &&& 31 = Int32.ofNat 12
      · rw [if_pos c12]; exact law_c12 h0 hL hx hr (p12 (xs (i + 1)) (xs (i + 2))) ih
      rw [if_neg c12]
      by_cases c13 : xs i &&& 31 = Int32.ofNat 13
      · rw [if_pos c13]; exact law_c13 h0 hL hx hr (p13 (xs (i + 1)) (xs (i + 2))) ih
      rw [if_neg c13]
      by_cases c14 : xs i &&& 31 = Int32.ofNat 14
      · rw [if_pos c14]; exact law_c14 h0 hL hx hr (p14 (xs (i + 1)) (xs (i + 2))) ih
      rw [if_neg c14]
      by_cases c15 : xs i &&& 31 = Int32.ofNat 15
      · rw [if_pos c15]; exact law_c15 h0 hL hx hr (p15 (xs (i + 1)) (xs (i + 2))) ih
      rw [if_neg c15]
      by_cases c16 : xs i &&& 31 = Int32.ofNat 16
      · rw [if_pos c16]; exact law_c16 h0 hL hx hr (p16 (xs (i + 1)) (xs (i + 2)) (xs (i + 3))) ih
      rw [if_neg c16]
      by_cases c17 : xs i &&& 31 = Int32.ofNat 17
      · rw [if_pos c17]; exact law_c17 h0 hL hx hr (p17 (xs (i + 1)) (xs (i + 2))) ih
      rw [if_neg c17]
      by_cases c18 : xs i &&& 31 = Int32.ofNat 18
      · rw [if_pos c18]; exact law_c18 h0 hL hx hr (p18 (xs (i + 1)) (xs (i + 2)) (xs (i + 3))) ih
      rw [if_neg c18]
      by_cases c19 : xs i &&& 31 = Int32.ofNat 19
      · rw [if_pos c19]; exact law_c19 h0 hL hx hr (p19 (xs (i + 1)) (xs (i + 2))) ih
      rw [if_neg c19]
      by_cases c20 : xs i &&& 31 = Int32.ofNat 20
      · rw [if_pos c20]; exact law_c20 h0 hL hx hr (p20 (xs (i + 1)) (xs (i + 2)) (xs (i + 3))) ih
      rw [if_neg c20]
      by_cases c21 : xs i &&& 31 = Int32.ofNat 21
      · rw [if_pos c21]; exact law_c21 h0 hL hx hr (p21 (xs (i + 1))) ih
      rw [if_neg c21]
      by_cases c22 : xs i &&& 31 = Int32.ofNat 22
      · rw [if_pos c22]; exact law_c22 h0 hL hx hr (p22 (xs (i + 1))) ih
      rw [if_neg c22]
      by_cases c23 : xs i &&& 31 = Int32.ofNat 23
      · rw [if_pos c23]; exact law_c23 h0 hL hx hr (p23 (xs (i + 1)) (xs (i + 2)) (xs (i + 3))) ih
      rw [if_neg c23]
      by_cases c24 : xs i &&& 31 = Int32.ofNat 24
      · rw [if_pos c24]; exact law_c24 h0 hL hx hr (p24 (xs (i + 1))) ih
      rw [if_neg c24]
      by_cases c25 : xs i &&& 31 = Int32.ofNat 25
      · rw [if_pos c25]; exact law_c25 h0 hL hx hr (p25 (xs (i + 1)) (xs (i + 2)) (xs (i + 3))) ih
      rw [if_neg c25]
      by_cases c26 : xs i &&& 31 = Int32.ofNat 26
      · rw [if_pos c26]; exact law_c26 h0 hL hx hr (p26 (xs (i + 1))) ih
      rw [if_neg c26]
      by_cases c27 : xs i &&& 31 = Int32.ofNat 27
      · rw [if_pos c27]; exact law_c27 h0 hL hx hr (p27) ih
      rw [if_neg c27]
      by_cases c28 : xs i &&& 31 = Int32.ofNat 28
      · rw [if_pos c28]; exact law_c28 h0 hL hx hr (p28) ih
      rw [if_neg c28]
      by_cases c29 : xs i &&& 31 = Int32.ofNat 29
      · rw [if_pos c29]; exact law_c29 h0 hL hx hr (p29 (xs (i + 1))) ih
      rw [if_neg c29]
      by_cases c30 : xs i &&& 31 = Int32.ofNat 30
      · rw [if_pos c30]; exact law_c30 h0 hL hx hr (p30 (xs (i + 1))) ih
      rw [if_neg c30]
      obtain ⟨h3, e5⟩ := ih h hr
      refine ⟨h3, ?_⟩
      simp only [EL_856, nI_p i]
      exact e5
    · refine ⟨h, ?_⟩
      rw [EL_10]
      simp only [bI_some, bV_some, bR_some, bL_some, ob_some, cd_t, cd_f, cd_d, okO_setI, okA_setI, okL_setI, aLen_setI, hR_setI, hI_setI, Bool.true_and, Bool.and_true, Bool.and_self, Option.isNone_some, Option.isSome_some, Option.isNone_none, Option.isSome_none]
      rw [if_pos]
      rw [Int32.lt_iff_toInt_lt, Int32.toInt_sub, show (Int32.ofNat L).toInt = (L : Int) from nI_toInt (by omega), show (6 : Int32).toInt = 6 from rfl, nI_toInt (by omega), Int.bmod_eq_of_le (by omega) (by omega)]
      omega
