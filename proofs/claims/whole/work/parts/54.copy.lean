/-! heaps whose ints have changed; copies -/
def chI (h : rz_H) (g : Nat → Nat → Int32) : rz_H := (g, h.2.1, h.2.2)
theorem hI_chI (h : rz_H) (g : Nat → Nat → Int32) (a i : Nat) : hI (chI h g) a i = g a i := rfl
theorem hR_chI (h : rz_H) (g : Nat → Nat → Int32) (a i : Nat) : hR (chI h g) a i = hR h a i := rfl
theorem okO_chI (h : rz_H) (g : Nat → Nat → Int32) (b : Nat) (cs : List Nat) : okO (chI h g) b cs = okO h b cs := rfl
theorem okA_chI (h : rz_H) (g : Nat → Nat → Int32) (b ty : Nat) (x : Int32) : okA (chI h g) b ty x = okA h b ty x := rfl
theorem okL_chI (h : rz_H) (g : Nat → Nat → Int32) (b : Nat) : okL (chI h g) b = okL h b := rfl
theorem aLen_chI (h : rz_H) (g : Nat → Nat → Int32) (b : Nat) : aLen (chI h g) b = aLen h b := rfl
theorem Wf.chI {rb dr : Nat} {jd : Option Nat} {h : rz_H} (w : Wf rb dr jd h) (g : Nat → Nat → Int32) : Wf rb dr jd (chI h g) := w
theorem setI_chI (h : rz_H) (g : Nat → Nat → Int32) (a i : Nat) (v : Int32) : setI (chI h g) a i v = chI h (fun b j => if b = a ∧ j = i then v else g b j) := rfl
theorem setI_ch (h : rz_H) (a i : Nat) (v : Int32) : setI h a i v = chI h (fun b j => if b = a ∧ j = i then v else hI h b j) := rfl
theorem chI_self (h : rz_H) : chI h (hI h) = h := rfl
theorem chI_ext {h : rz_H} {g g2 : Nat → Nat → Int32} (e : ∀ a i, g a i = g2 a i) : chI h g = chI h g2 := by
  have : g = g2 := funext fun a => funext fun i => e a i
  rw [this]
theorem chI_to {h k : rz_H} {g : Nat → Nat → Int32} (e1 : k.2 = h.2) (e : ∀ a i, hI k a i = g a i) : k = chI h g := by
  obtain ⟨k1, k2, k3⟩ := k
  obtain ⟨h1, h2, h3⟩ := h
  cases e1
  have : k1 = g := funext fun a => funext fun i => e a i
  subst this
  rfl
theorem lp_u {ρ : Type} (P : Nat → ρ) (n : Nat) (hs : ∀ i, i < n → P i = P (i + 1)) : P 0 = P n := by
  induction n with
  | zero => rfl
  | succ n ih => rw [ih (fun i hi => hs i (by omega)), hs n (by omega)]
theorem lp_uf {ρ : Type} (P : Nat → ρ) (m n : Nat) (hm : m ≤ n) (hs : ∀ i, m ≤ i → i < n → P i = P (i + 1)) : P m = P n := by
  have := lp_u (fun j => P (m + j)) (n - m) (fun i hi => hs (m + i) (by omega) (by omega))
  rw [show m + (n - m) = n by omega] at this
  exact this
theorem S38 {rb dr : Nat} {jd : Option Nat} {h : rz_H} (w : Wf rb dr jd h) (d f t : Nat) (hf : ∀ x, okA h f 0 x = rz_in x 306) (ht : ∀ x, okA h t 0 x = rz_in x 306) (hft : f ≠ t) : cW (d + 1) 38 [rz_r (some f), rz_r (some t)] h = some (rz_i 0, chI h (fun b i => if b = t ∧ i < 306 then hI h f i else hI h b i)) := by
  rw [E38]
  have key := lp_u (fun j => rW d 38 (2, (0, 0), [some (rz_r (some f)), some (rz_r (some t)), some (rz_i (nI j))], [], chI h (fun b i => if b = t ∧ i < j then hI h f i else hI h b i))) 306 (fun j hj => by
    show rW d 38 (2, (0, 0), [some (rz_r (some f)), some (rz_r (some t)), some (rz_i (nI j))], [], chI h (fun b i => if b = t ∧ i < j then hI h f i else hI h b i)) = _
    rw [E38_2]
    have c1 : ¬ (306 : Int32) ≤ nI j := nI_ge (a := j) (b := 306) hj (by omega)
    have c2 : rz_in (nI j) 306 = true := in_nI hj (by omega)
    have c3 : (nI j).toNatClampNeg = j := nI_clamp (by omega)
    have f1 : okA (chI h (fun b i => if b = t ∧ i < j then hI h f i else hI h b i)) f 0 (nI j) = rz_in (nI j) 306 := hf _
    have f2 : okA (chI h (fun b i => if b = t ∧ i < j then hI h f i else hI h b i)) t 0 (nI j) = rz_in (nI j) 306 := ht _
    simp only [bI_some, bV_some, bR_some, bL_some, ob_some, cd_t, cd_f, cd_d, okO_setI, okA_setI, okL_setI, aLen_setI, hR_setI, hI_setI, Bool.true_and, Bool.and_true, Bool.and_self, Option.isNone_some, Option.isSome_some, Option.isNone_none, Option.isSome_none, if_neg c1, f1, f2, c2, c3, nI_1, hI_chI, if_neg (fun q : f = t ∧ j < j => hft q.1)]
    rw [setI_chI]
    refine congrArg (fun k => rW d 38 (2, (0, 0), [some (rz_r (some f)), some (rz_r (some t)), some (rz_i (nI (j + 1)))], [], k)) (chI_ext fun b i => ?_)
    by_cases hb : b = t
    · subst hb
      by_cases hi : i = j
      · subst hi
        simp
      · by_cases hij : i < j
        · simp [hi, hij, show i < j + 1 by omega]
        · simp [hi, hij, show ¬ i < j + 1 by omega]
    · simp [hb])
  have e0 : chI h (fun b i => if b = t ∧ i < 0 then hI h f i else hI h b i) = h := by
    rw [← chI_self h]
    exact chI_ext fun b i => by simp [hI_chI]
  simp only [e0] at key
  rw [show (0 : Int32) = nI 0 from rfl, key, E38_2]
  simp only [bI_some, bV_some, bR_some, bL_some, ob_some, cd_t, cd_f, cd_d, okO_setI, okA_setI, okL_setI, aLen_setI, hR_setI, hI_setI, Bool.true_and, Bool.and_true, Bool.and_self, Option.isNone_some, Option.isSome_some, Option.isNone_none, Option.isSome_none]
  rw [if_pos (show (306 : Int32) ≤ nI 306 from nI_le (a := 306) (b := 306) (by omega) (by omega))]
  rfl
/-- what DRUM.copyFrom makes -/
def dcp (h : rz_H) (a b F : Nat) : Nat → Nat → Int32 := fun c i => if c = a ∧ 2 ≤ i ∧ i ≤ 7 then hI h b i else if (c = a + 1 ∨ c = a + 2) ∧ i < F then hI h (b + (c - a)) i else hI h c i
theorem S155 {rb dr : Nat} {jd : Option Nat} {h : rz_H} (w : Wf rb dr jd h) {a b F : Nat} (ha : isD a) (hb : isD b) (hab : a + 3 ≤ b ∨ b + 3 ≤ a) (hF : hI h b 2 = nI F) (hF16 : F ≤ 16) (h7 : hI h b 7 = 0 ∨ hI h b 7 = 1) (d : Nat) : cW (d + 1) 155 [rz_r (some a), rz_r (some b)] h = some (rz_i 0, chI h (dcp h a b F)) := by
  rw [E155]
  have g7 : ∀ x : Int32, (x = 0 ∨ x = 1) → (decide (x = 0) || decide (x = 1)) = true := by
    intro x hx
    rcases hx with rfl | rfl <;> rfl
  have na : b ≠ a := by omega
  simp only [bI_some, bV_some, bR_some, bL_some, ob_some, cd_t, cd_f, cd_d, okO_setI, okA_setI, okL_setI, aLen_setI, hR_setI, hI_setI, Bool.true_and, Bool.and_true, Bool.and_self, Option.isNone_some, Option.isSome_some, Option.isNone_none, Option.isSome_none, WD w ha, WD w hb, na, false_and, if_false, g7 _ h7]
  have key := lp_u (fun j => rW d 155 (26, (0, 0), [some (rz_r (some a)), some (rz_r (some b)), some (rz_i (nI j))], [], chI h (dcp h a b j))) F (fun j hj => by
    show rW d 155 (26, (0, 0), [some (rz_r (some a)), some (rz_r (some b)), some (rz_i (nI j))], [], chI h (dcp h a b j)) = _
    rw [E155_26]
    have c1 : ¬ nI F ≤ nI j := nI_ge hj (by omega)
    have c2 : rz_in (nI j) 16 = true := in_nI (by omega) (by omega)
    have c3 : (nI j).toNatClampNeg = j := nI_clamp (by omega)
    have c4 : ¬ (16 : Int32) ≤ nI j := nI_ge (a := j) (b := 16) (by omega) (by omega)
    have w2 : Wf rb dr jd (chI h (dcp h a b j)) := w
    have v2 : dcp h a b j a 2 = nI F := by simp [dcp, hF]
    have v1 : dcp h a b j (b + 1) j = hI h (b + 1) j := by
      unfold dcp
      rw [if_neg (by omega), if_neg (by omega)]
    have v3 : dcp h a b j (b + 2) j = hI h (b + 2) j := by
      unfold dcp
      rw [if_neg (by omega), if_neg (by omega)]
    have n1 : ¬ (b + 2 = a + 1 ∧ j = j) := by omega
    simp only [bI_some, bV_some, bR_some, bL_some, ob_some, cd_t, cd_f, cd_d, okO_setI, okA_setI, okL_setI, aLen_setI, hR_setI, hI_setI, Bool.true_and, Bool.and_true, Bool.and_self, Option.isNone_some, Option.isSome_some, Option.isNone_none, Option.isSome_none, WD w2 ha, WD w2 hb, hI_chI, v2, c1, c2, c3, c4, if_false, v1, v3, n1, nI_1]
    rw [setI_chI, setI_chI]
    refine congrArg (fun k => rW d 155 (26, (0, 0), [some (rz_r (some a)), some (rz_r (some b)), some (rz_i (nI (j + 1)))], [], k)) (chI_ext fun c i => ?_)
    unfold dcp
    by_cases p1 : c = a + 2 ∧ i = j
    · obtain ⟨rfl, rfl⟩ := p1
      simp
      intro q
      omega
    · rw [if_neg p1]
      by_cases p2 : c = a + 1 ∧ i = j
      · obtain ⟨rfl, rfl⟩ := p2
        simp
      · rw [if_neg p2]
        by_cases p3 : c = a ∧ 2 ≤ i ∧ i ≤ 7
        · rw [if_pos p3, if_pos p3]
        · rw [if_neg p3, if_neg p3]
          by_cases p4 : (c = a + 1 ∨ c = a + 2) ∧ i < j
          · rw [if_pos p4, if_pos (by omega)]
          · rw [if_neg p4, if_neg (by omega)])
  refine Eq.trans (Eq.trans ?_ key) ?_
  · refine congrArg (fun k => rW d 155 (26, (0, 0), [some (rz_r (some a)), some (rz_r (some b)), some (rz_i 0)], [], k)) (chI_to rfl fun c i => ?_)
    simp only [hI_setI, dcp]
    by_cases hc : c = a
    · subst hc
      by_cases h2 : 2 ≤ i ∧ i ≤ 7
      · have : i = 2 ∨ i = 3 ∨ i = 4 ∨ i = 5 ∨ i = 6 ∨ i = 7 := by omega
        rcases this with rfl | rfl | rfl | rfl | rfl | rfl <;> simp
      · simp [h2, show i ≠ 2 by omega, show i ≠ 3 by omega, show i ≠ 4 by omega, show i ≠ 5 by omega, show i ≠ 6 by omega, show i ≠ 7 by omega]
    · simp [hc]
  · have w2 : Wf rb dr jd (chI h (dcp h a b F)) := w
    rw [E155_26]
    have v2 : dcp h a b F a 2 = nI F := by simp [dcp, hF]
    simp only [bI_some, bV_some, bR_some, bL_some, ob_some, cd_t, cd_f, cd_d, okO_setI, okA_setI, okL_setI, aLen_setI, hR_setI, hI_setI, Bool.true_and, Bool.and_true, Bool.and_self, Option.isNone_some, Option.isSome_some, Option.isNone_none, Option.isSome_none, WD w2 ha, WD w2 hb, hI_chI, v2]
    rw [if_pos (nI_le (Nat.le_refl _) (by omega))]
/-- what LAND.copyFrom makes, behind n drums -/
def lcp (h : rz_H) (A B n : Nat) : Nat → Nat → Int32 := fun c i => if A + 2 ≤ c ∧ c < A + 2 + 3 * n then (if (c - (A + 2)) % 3 = 0 then (if 2 ≤ i ∧ i ≤ 7 then hI h (B + 2 + (c - (A + 2))) i else hI h c i) else if i < (hI h (B + 2 + 3 * ((c - (A + 2)) / 3)) 2).toNatClampNeg then hI h (B + 2 + (c - (A + 2))) i else hI h c i) else hI h c i
theorem S191 {rb dr : Nat} {jd : Option Nat} {h : rz_H} (w : Wf rb dr jd h) {A B : Nat} (hA : isL A) (hB : isL B) (hAB : A ≠ B) (hok : LaOk h B) (d : Nat) : cW (d + 2) 191 [rz_r (some A), rz_r (some B)] h = some (rz_i 0, chI h (fun c i => if c = A ∧ (i = 1 ∨ i = 2) then hI h B i else lcp h A B 8 c i)) := by
  have hsep : A + 26 ≤ B ∨ B + 26 ≤ A := by
    unfold isL at hA hB
    omega
  rw [E191]
  have key := lp_u (fun j => rW (d + 1) 191 (2, (0, 0), [some (rz_r (some A)), some (rz_r (some B)), some (rz_i (nI j))], [], chI h (lcp h A B j))) 8 (fun j hj => by
    show rW (d + 1) 191 (2, (0, 0), [some (rz_r (some A)), some (rz_r (some B)), some (rz_i (nI j))], [], chI h (lcp h A B j)) = _
    rw [E191_2]
    have c2 : rz_in (nI j) 8 = true := in_nI (by omega) (by omega)
    have c3 : (nI j).toNatClampNeg = j := nI_clamp (by omega)
    have c4 : ¬ (8 : Int32) ≤ nI j := nI_ge (a := j) (b := 8) (by omega) (by omega)
    have w2 : Wf rb dr jd (chI h (lcp h A B j)) := w
    obtain ⟨k1, k2⟩ := WLk w2 hA hj
    obtain ⟨k3, k4⟩ := WLk w2 hB hj
    obtain ⟨F, p, t, v, s, q, f1, f2, f3, f4, f5, f6, f7, f8, f9, f10, f11, f12, f13⟩ := hok.1 j hj
    have same : ∀ c i, (c < A + 2 + 3 * j → c < A + 2) → lcp h A B j c i = hI h c i := by
      intro c i hc
      unfold lcp
      rw [if_neg (by omega)]
    have e2 : hI (chI h (lcp h A B j)) (B + 2 + 3 * j) 2 = nI F := by rw [hI_chI, same _ _ (by omega)]; exact f1
    have e7 : hI (chI h (lcp h A B j)) (B + 2 + 3 * j) 7 = 0 ∨ hI (chI h (lcp h A B j)) (B + 2 + 3 * j) 7 = 1 := by
      rw [hI_chI, same _ _ (by omega), f6]
      rcases (show q = 0 ∨ q = 1 by omega) with rfl | rfl
      · exact Or.inl rfl
      · exact Or.inr rfl
    have call := S155 w2 k2 k4 (by omega) e2 f7 e7 d
    simp only [bI_some, bV_some, bR_some, bL_some, ob_some, cd_t, cd_f, cd_d, okO_setI, okA_setI, okL_setI, aLen_setI, hR_setI, hI_setI, Bool.true_and, Bool.and_true, Bool.and_self, Option.isNone_some, Option.isSome_some, Option.isNone_none, Option.isSome_none, WLd w2 hA, WLd w2 hB, if_neg c4, c2, c3, k1, k3, WD w2 k2, call, nI_1]
    refine congrArg (fun k => rW (d + 1) 191 (2, (0, 0), [some (rz_r (some A)), some (rz_r (some B)), some (rz_i (nI (j + 1)))], [], k)) (chI_to rfl fun c i => ?_)
    show dcp (chI h (lcp h A B j)) (A + 2 + 3 * j) (B + 2 + 3 * j) F c i = lcp h A B (j + 1) c i
    by_cases hc : A + 2 + 3 * j ≤ c ∧ c < A + 2 + 3 * (j + 1)
    · have hdc : (c - (A + 2)) / 3 = j := by omega
      unfold dcp
      simp only [hI_chI]
      rw [same c i (by omega), same (B + 2 + 3 * j) i (by omega), same (B + 2 + 3 * j + (c - (A + 2 + 3 * j))) i (by omega)]
      unfold lcp
      rw [if_pos (show A + 2 ≤ c ∧ c < A + 2 + 3 * (j + 1) by omega), hdc, f1, nI_clamp (by omega)]
      rcases (show c = A + 2 + 3 * j ∨ c = A + 2 + 3 * j + 1 ∨ c = A + 2 + 3 * j + 2 by omega) with e | e | e
      · rw [if_pos (show (c - (A + 2)) % 3 = 0 by omega), show B + 2 + (c - (A + 2)) = B + 2 + 3 * j by omega]
        by_cases hi : 2 ≤ i ∧ i ≤ 7
        · rw [if_pos ⟨e, hi⟩, if_pos hi]
        · rw [if_neg (fun z => hi z.2), if_neg (by omega), if_neg hi]
      · rw [if_neg (by omega), if_neg (show ¬ (c - (A + 2)) % 3 = 0 by omega), show B + 2 + (c - (A + 2)) = B + 2 + 3 * j + (c - (A + 2 + 3 * j)) by omega]
        by_cases hi : i < F
        · rw [if_pos ⟨Or.inl e, hi⟩, if_pos hi]
        · rw [if_neg (fun z => hi z.2), if_neg hi]
      · rw [if_neg (by omega), if_neg (show ¬ (c - (A + 2)) % 3 = 0 by omega), show B + 2 + (c - (A + 2)) = B + 2 + 3 * j + (c - (A + 2 + 3 * j)) by omega]
        by_cases hi : i < F
        · rw [if_pos ⟨Or.inr e, hi⟩, if_pos hi]
        · rw [if_neg (fun z => hi z.2), if_neg hi]
    · unfold dcp
      rw [if_neg (by omega), if_neg (by omega), hI_chI]
      unfold lcp
      by_cases hc2 : A + 2 ≤ c ∧ c < A + 2 + 3 * j
      · rw [if_pos hc2, if_pos (show A + 2 ≤ c ∧ c < A + 2 + 3 * (j + 1) by omega)]
      · rw [if_neg hc2, if_neg (by omega)])
  have e0 : chI h (lcp h A B 0) = h := by
    rw [← chI_self h]
    exact chI_ext fun b i => by
      unfold lcp
      rw [if_neg (by omega)]
      rfl
  simp only [e0] at key
  rw [show (0 : Int32) = nI 0 from rfl, key, E191_2]
  have w2 : Wf rb dr jd (chI h (lcp h A B 8)) := w
  have c5 : (8 : Int32) ≤ nI 8 := nI_le (a := 8) (b := 8) (by omega) (by omega)
  have nBA : B ≠ A := fun q => hAB q.symm
  have s1 : ∀ i, lcp h A B 8 B i = hI h B i := by
    intro i
    unfold lcp
    rw [if_neg (by omega)]
  simp only [bI_some, bV_some, bR_some, bL_some, ob_some, cd_t, cd_f, cd_d, okO_setI, okA_setI, okL_setI, aLen_setI, hR_setI, hI_setI, Bool.true_and, Bool.and_true, Bool.and_self, Option.isNone_some, Option.isSome_some, Option.isNone_none, Option.isSome_none, WLd w2 hA, WLd w2 hB, if_pos c5, nBA, false_and, if_false, hI_chI, s1]
  refine congrArg (fun k => some (rz_i 0, k)) (chI_to rfl fun c i => ?_)
  simp only [hI_setI, hI_chI]
  by_cases h1 : c = A ∧ i = 2
  · obtain ⟨rfl, rfl⟩ := h1
    simp
  · rw [if_neg h1]
    by_cases h2 : c = A ∧ i = 1
    · obtain ⟨rfl, rfl⟩ := h2
      simp
    · rw [if_neg h2, if_neg (by omega)]
