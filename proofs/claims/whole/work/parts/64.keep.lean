/-! seed, keep, undo -/
/-- only these cells have changed -/
theorem Rel_mk {rb dr : Nat} {jd : Option Nat} {h : rz_H} (w : Wf rb dr jd h) (a : LaOk h 3) (b : LaRel h 3 110) (c : TpRel h) (d : KpRel h) (e : LwRel h rb) : Rel h := ⟨rb, dr, jd, w, a, b, c, d, e⟩
theorem lw_rb {rb dr : Nat} {jd : Option Nat} {h : rz_H} (w : Wf rb dr jd h) : (rb = 96 ∧ dr = 82) ∨ (rb = 82 ∧ dr = 96) := w.2.2.2.2.2
theorem DrRel.toN {h h2 : rz_H} {a N k : Nat} (g : DrRel h a N k) (hk : k < 8) (e : ∀ b, b = a ∨ b = a + 1 ∨ b = a + 2 → ∀ i, hI h2 b i = hI h b i) (e2 : ∀ j, j < 304 → hI h2 N j = hI h N j) : DrRel h2 a N k := by
  obtain ⟨a1, a2, a3, a4, a5, a6, a7⟩ := g
  have ea := e a (Or.inl rfl)
  have eb := e (a + 1) (Or.inr (Or.inl rfl))
  have ec := e (a + 2) (Or.inr (Or.inr rfl))
  refine ⟨?_, ?_, ?_, ?_, ?_, ?_, fun i hi hl => ?_⟩
  · rw [ea, e2 _ (by omega)]; exact a1
  · rw [ea, e2 _ (by omega)]; exact a2
  · rw [ea, e2 _ (by omega)]; exact a3
  · rw [ea, e2 _ (by omega)]; exact a4
  · rw [ea, e2 _ (by omega)]; exact a5
  · rw [ea, e2 _ (by omega)]; exact a6
  · rw [ea] at hl
    rw [eb, ec, e2 _ (by omega), e2 _ (by omega)]
    exact a7 i hi hl
theorem P27 (x : Int32) : Pr Rel 27 130 [rz_i x] := by
  intro h r
  obtain ⟨rb, dr, jd, w, r1, r2, r3, r4, r5⟩ := r
  have hrb := lw_rb w
  by_cases hx : 0 ≤ x ∧ x ≤ 65535
  · refine ⟨1, setI h 3 2 x, setI (setI h 3 2 x) 110 305 x, ?_, ?_, (WMd w).1, ?_⟩
    · rw [show DD = 99 + 1 from rfl, E27]
      simp only [bI_some, bV_some, bR_some, bL_some, ob_some, cd_t, cd_f, cd_d, okO_setI, okA_setI, okL_setI, aLen_setI, hR_setI, hI_setI, Bool.true_and, Bool.and_true, Bool.and_self, Option.isNone_some, Option.isSome_some, Option.isNone_none, Option.isSome_none, if_neg (Int32.not_lt.mpr hx.1), if_pos hx.2, WRt w, S180 w (Or.inl rfl : isL 3) 98]
    · rw [show DD = 99 + 1 from rfl, E130]
      have w2 := w.setI 3 2 x
      simp only [bI_some, bV_some, bR_some, bL_some, ob_some, cd_t, cd_f, cd_d, okO_setI, okA_setI, okL_setI, aLen_setI, hR_setI, hI_setI, Bool.true_and, Bool.and_true, Bool.and_self, Option.isNone_some, Option.isSome_some, Option.isNone_none, Option.isSome_none, S33 98, if_pos hx, WMd w2, WMd w]
      rfl
    · obtain ⟨q, hq1, hq2⟩ := nI_of2 (x := x) (M := 65535) (n := 65535) rfl (Int32.not_lt.mpr hx.1) hx.2
      have g : ∀ b i, ¬ (b = 3 ∧ i = 2) → ¬ (b = 110 ∧ i = 305) → hI (setI (setI h 3 2 x) 110 305 x) b i = hI h b i := fun b i n1 n2 => by
        rw [hI_setI, if_neg n2, hI_setI, if_neg n1]
      have gg : ∀ b, b ≠ 3 → b ≠ 110 → ∀ i, hI (setI (setI h 3 2 x) 110 305 x) b i = hI h b i := fun b n1 n2 i => g b i (fun q => n1 q.1) (fun q => n2 q.1)
      refine Rel_mk (w.setI 3 2 x) ⟨fun k hk => (r1.1 k hk).to (fun b hb i => gg b (by omega) (by omega) i), ?_, ?_⟩ ⟨fun k hk => ?_, ?_, ?_⟩ (r3.to (fun b hb i => gg b (by omega) (by omega) i) (g 109 4 (by omega) (by omega))) (r4.to (fun b hb i => gg b (by omega) (by omega) i) (g 0 9 (by omega) (by omega)) (g 109 39 (by omega) (by omega))) (r5.to (fun b hb i => gg b (by omega) (by omega) i) (g 109 13 (by omega) (by omega)))
      · rw [g 3 1 (by omega) (by omega)]; exact r1.2.1
      · exact ⟨q, hq1, by rw [hI_setI, if_neg (by omega), hI_setI, if_pos ⟨rfl, rfl⟩]; exact hq2⟩
      · exact (r2.1 k hk).toN hk (fun b hb i => gg b (by omega) (by omega) i) (fun j hj => g 110 j (by omega) (by omega))
      · rw [g 3 1 (by omega) (by omega), g 110 304 (by omega) (by omega)]; exact r2.2.1
      · rw [hI_setI, if_neg (by omega), hI_setI, if_pos ⟨rfl, rfl⟩, hI_setI, if_pos ⟨rfl, rfl⟩]
  · refine ⟨0, h, h, ?_, ?_, (WMd w).1, ⟨rb, dr, jd, w, r1, r2, r3, r4, r5⟩⟩
    · rw [show DD = 99 + 1 from rfl, E27]
      simp only [bI_some, bV_some, bR_some, bL_some, ob_some, cd_t, cd_f, cd_d, okO_setI, okA_setI, okL_setI, aLen_setI, hR_setI, hI_setI, Bool.true_and, Bool.and_true, Bool.and_self, Option.isNone_some, Option.isSome_some, Option.isNone_none, Option.isSome_none]
      by_cases h1 : x < 0
      · rw [if_pos h1]
      · rw [if_neg h1, if_neg (fun q => hx ⟨Int32.not_lt.mp h1, q⟩)]
    · rw [show DD = 99 + 1 from rfl, E130]
      simp only [bI_some, bV_some, bR_some, bL_some, ob_some, cd_t, cd_f, cd_d, okO_setI, okA_setI, okL_setI, aLen_setI, hR_setI, hI_setI, Bool.true_and, Bool.and_true, Bool.and_self, Option.isNone_some, Option.isSome_some, Option.isNone_none, Option.isSome_none, S33 98, if_neg hx]
      rfl
/-- the copied land is as good as the one that it comes from -/
theorem LaOk.cp {h : rz_H} {A B : Nat} (hs : A + 26 ≤ B ∨ B + 26 ≤ A) (g : LaOk h B) {h2 : rz_H} (e : ∀ c, A ≤ c → c < A + 26 → ∀ i, hI h2 c i = if c = A ∧ (i = 1 ∨ i = 2) then hI h B i else lcp h A B 8 c i) : LaOk h2 A := by
  refine ⟨fun k hk => ?_, ?_, ?_⟩
  · obtain ⟨F, p, t, v, s, q, f1, f2, f3, f4, f5, f6, f7, f8, f9, f10, f11, f12, f13⟩ := g.1 k hk
    have ef : ∀ i, 2 ≤ i → i ≤ 7 → hI h2 (A + 2 + 3 * k) i = hI h (B + 2 + 3 * k) i := by
      intro i h1 h7
      rw [e _ (by omega) (by omega), if_neg (by omega)]
      unfold lcp
      rw [if_pos (by omega), if_pos (by omega), if_pos ⟨h1, h7⟩, show B + 2 + (A + 2 + 3 * k - (A + 2)) = B + 2 + 3 * k by omega]
    have eg : ∀ r, r = 1 ∨ r = 2 → ∀ i, i < F → hI h2 (A + 2 + 3 * k + r) i = hI h (B + 2 + 3 * k + r) i := by
      intro r hr i hi
      rw [e _ (by omega) (by omega), if_neg (by omega)]
      unfold lcp
      rw [if_pos (by omega), if_neg (by omega), show (A + 2 + 3 * k + r - (A + 2)) / 3 = k by omega, f1, nI_clamp (by omega), if_pos hi, show B + 2 + (A + 2 + 3 * k + r - (A + 2)) = B + 2 + 3 * k + r by omega]
    refine ⟨F, p, t, v, s, q, (ef 2 (by omega) (by omega)).trans f1, (ef 3 (by omega) (by omega)).trans f2, (ef 4 (by omega) (by omega)).trans f3, (ef 5 (by omega) (by omega)).trans f4, (ef 6 (by omega) (by omega)).trans f5, (ef 7 (by omega) (by omega)).trans f6, f7, f8, f9, f10, f11, f12, fun i hi => ?_⟩
    obtain ⟨c, e', c1, c2, c3, c4⟩ := f13 i hi
    exact ⟨c, e', (eg 1 (Or.inl rfl) i hi).trans c1, c2, (eg 2 (Or.inr rfl) i hi).trans c3, c4⟩
  · rw [e A (by omega) (by omega), if_pos ⟨rfl, Or.inl rfl⟩]; exact g.2.1
  · rw [e A (by omega) (by omega), if_pos ⟨rfl, Or.inr rfl⟩]; exact g.2.2
theorem LaRel.cp {h : rz_H} {A B N M : Nat} (hs : A + 26 ≤ B ∨ B + 26 ≤ A) (g0 : LaOk h B) (g : LaRel h B M) {h2 : rz_H} (e : ∀ c, A ≤ c → c < A + 26 → ∀ i, hI h2 c i = if c = A ∧ (i = 1 ∨ i = 2) then hI h B i else lcp h A B 8 c i) (e2 : ∀ i, i < 306 → hI h2 N i = hI h M i) : LaRel h2 A N := by
  refine ⟨fun k hk => ?_, ?_, ?_⟩
  · obtain ⟨F, p, t, v, s, q, f1, -, -, -, -, -, f7, -⟩ := g0.1 k hk
    obtain ⟨a1, a2, a3, a4, a5, a6, a7⟩ := g.1 k hk
    have ef : ∀ i, 2 ≤ i → i ≤ 7 → hI h2 (A + 2 + 3 * k) i = hI h (B + 2 + 3 * k) i := by
      intro i h1 h7
      rw [e _ (by omega) (by omega), if_neg (by omega)]
      unfold lcp
      rw [if_pos (by omega), if_pos (by omega), if_pos ⟨h1, h7⟩, show B + 2 + (A + 2 + 3 * k - (A + 2)) = B + 2 + 3 * k by omega]
    have eg : ∀ r, r = 1 ∨ r = 2 → ∀ i, i < F → hI h2 (A + 2 + 3 * k + r) i = hI h (B + 2 + 3 * k + r) i := by
      intro r hr i hi
      rw [e _ (by omega) (by omega), if_neg (by omega)]
      unfold lcp
      rw [if_pos (by omega), if_neg (by omega), show (A + 2 + 3 * k + r - (A + 2)) / 3 = k by omega, f1, nI_clamp (by omega), if_pos hi, show B + 2 + (A + 2 + 3 * k + r - (A + 2)) = B + 2 + 3 * k + r by omega]
    refine ⟨?_, ?_, ?_, ?_, ?_, ?_, fun i hi hl => ?_⟩
    · rw [ef 2 (by omega) (by omega), e2 _ (by omega)]; exact a1
    · rw [ef 3 (by omega) (by omega), e2 _ (by omega)]; exact a2
    · rw [ef 4 (by omega) (by omega), e2 _ (by omega)]; exact a3
    · rw [ef 5 (by omega) (by omega), e2 _ (by omega)]; exact a4
    · rw [ef 6 (by omega) (by omega), e2 _ (by omega)]; exact a5
    · rw [ef 7 (by omega) (by omega), e2 _ (by omega)]; exact a6
    · rw [ef 2 (by omega) (by omega)] at hl
      have hiF : i < F := by
        rw [f1] at hl
        exact (nI_ltI (by omega) (by omega)).mp hl
      rw [eg 1 (Or.inl rfl) i hiF, eg 2 (Or.inr rfl) i hiF, e2 _ (by omega), e2 _ (by omega)]
      exact a7 i hi hl
  · rw [e A (by omega) (by omega), if_pos ⟨rfl, Or.inl rfl⟩, e2 _ (by omega)]; exact g.2.1
  · rw [e A (by omega) (by omega), if_pos ⟨rfl, Or.inr rfl⟩, e2 _ (by omega)]; exact g.2.2
/-- outside of the copied land -/
theorem lcp_out {h : rz_H} {A B c i : Nat} (hc : c < A ∨ A + 26 ≤ c) : (if c = A ∧ (i = 1 ∨ i = 2) then hI h B i else lcp h A B 8 c i) = hI h c i := by
  rw [if_neg (by omega)]
  unfold lcp
  rw [if_neg (by omega)]
theorem P28 : Pr Rel 28 131 [] := by
  intro h r
  obtain ⟨rb, dr, jd, w, r1, r2, r3, r4, r5⟩ := r
  have hrb := lw_rb w
  let g1 : Nat → Nat → Int32 := fun c i => if c = 29 ∧ (i = 1 ∨ i = 2) then hI h 3 i else lcp h 29 3 8 c i
  let h1 := setI (chI h g1) 0 9 1
  have w1 : Wf rb dr jd h1 := w
  have gout : ∀ c i, (c < 29 ∨ 55 ≤ c) → hI (chI h g1) c i = hI h c i := fun c i hc => lcp_out (by omega)
  have hT : hI h1 3 1 = hI h 3 1 := by
    show hI (setI (chI h g1) 0 9 1) 3 1 = _
    rw [hI_setI, if_neg (by omega), gout 3 1 (by omega)]
  let k1 := setI h1 109 39 1
  have wk : Wf rb dr jd k1 := w
  let h2 := chI k1 (fun b i => if b = 112 ∧ i < 306 then hI k1 110 i else hI k1 b i)
  have k110 : ∀ b i, ¬ (b = 109 ∧ i = 39) → ¬ (b = 0 ∧ i = 9) → (b < 29 ∨ 55 ≤ b) → hI k1 b i = hI h b i := fun b i n1 n2 n3 => by
    show hI (setI (setI (chI h g1) 0 9 1) 109 39 1) b i = _
    rw [hI_setI, if_neg n1, hI_setI, if_neg n2, gout b i n3]
  have out : ∀ b i, ¬ (b = 109 ∧ i = 39) → ¬ (b = 0 ∧ i = 9) → (b < 29 ∨ 55 ≤ b) → b ≠ 112 → hI h2 b i = hI h b i := fun b i n1 n2 n3 n4 => by
    show (if b = 112 ∧ i < 306 then hI k1 110 i else hI k1 b i) = _
    rw [if_neg (fun q => n4 q.1)]
    exact k110 b i n1 n2 n3
  refine ⟨hI h 3 1, h1, h2, ?_, ?_, (WMd w1).1, ?_⟩
  · rw [show DD = 99 + 1 from rfl, E28]
    have call := S191 w (Or.inr (Or.inl rfl) : isL 29) (Or.inl rfl : isL 3) (by omega) r1 97
    have call2 := S178 w1 (Or.inl rfl : isL 3) 98
    have d1 : (decide ((1 : Int32) = 0) || decide ((1 : Int32) = 1)) = true := rfl
    simp only [bI_some, bV_some, bR_some, bL_some, ob_some, cd_t, cd_f, cd_d, okO_setI, okA_setI, okL_setI, aLen_setI, hR_setI, hI_setI, Bool.true_and, Bool.and_true, Bool.and_self, Option.isNone_some, Option.isSome_some, Option.isNone_none, Option.isSome_none, okO_chI, okA_chI, okL_chI, aLen_chI, hR_chI, WRt w]
    rw [call]
    simp only [bI_some, bV_some, bR_some, bL_some, ob_some, cd_t, cd_f, cd_d, okO_setI, okA_setI, okL_setI, aLen_setI, hR_setI, hI_setI, Bool.true_and, Bool.and_true, Bool.and_self, Option.isNone_some, Option.isSome_some, Option.isNone_none, Option.isSome_none, okO_chI, okA_chI, okL_chI, aLen_chI, hR_chI, d1, WRt w]
    rw [show setI (chI h fun c i => if c = 29 ∧ (i = 1 ∨ i = 2) then hI h 3 i else lcp h 29 3 8 c i) 0 9 1 = h1 from rfl, call2, hT]
    rfl
  · rw [show DD = 99 + 1 from rfl, E131]
    have d1 : (decide ((1 : Int32) = 0) || decide ((1 : Int32) = 1)) = true := rfl
    have call := S38 wk 98 110 112 (fun x => by simp only [WMd wk]) (fun x => by simp only [WMd wk]) (by omega)
    simp only [bI_some, bV_some, bR_some, bL_some, ob_some, cd_t, cd_f, cd_d, okO_setI, okA_setI, okL_setI, aLen_setI, hR_setI, hI_setI, Bool.true_and, Bool.and_true, Bool.and_self, Option.isNone_some, Option.isSome_some, Option.isNone_none, Option.isSome_none, okO_chI, okA_chI, okL_chI, aLen_chI, hR_chI, d1, WMd w1]
    rw [show setI h1 109 39 1 = k1 from rfl, call]
    have c3 : rz_in 304 306 = true := rfl
    simp only [bI_some, bV_some, bR_some, bL_some, ob_some, cd_t, cd_f, cd_d, okO_setI, okA_setI, okL_setI, aLen_setI, hR_setI, hI_setI, Bool.true_and, Bool.and_true, Bool.and_self, Option.isNone_some, Option.isSome_some, Option.isNone_none, Option.isSome_none, okO_chI, okA_chI, okL_chI, aLen_chI, hR_chI, WMd wk, c3]
    have e3 : hI h2 110 304 = hI h 3 1 := by
      rw [out 110 304 (by omega) (by omega) (by omega) (by omega)]
      exact r2.2.1.symm
    rw [show Int32.toNatClampNeg 304 = 304 from rfl, show (chI k1 fun b i => if b = 112 ∧ i < 306 then hI k1 110 i else hI k1 b i) = h2 from rfl, e3]
    rfl
  · have gg : ∀ b, 3 ≤ b → b ≠ 109 → (b < 29 ∨ 55 ≤ b) → b ≠ 112 → ∀ i, hI h2 b i = hI h b i := fun b n1 n2 n3 n4 i => out b i (by omega) (by omega) n3 n4
    have g12 : ∀ b, b = 1 ∨ b = 2 → ∀ i, hI h2 b i = hI h b i := fun b hb i => out b i (by omega) (by omega) (by omega) (by omega)
    refine Rel_mk (w : Wf rb dr jd h2) (r1.to (fun b a1 a2 i => gg b (by omega) (by omega) (by omega) (by omega) i)) (r2.to (fun b hb i => gg b (by omega) (by omega) (by omega) (by omega) i)) (r3.to (fun b hb i => ?_) (out 109 4 (by omega) (by omega) (by omega) (by omega))) (Or.inr ⟨?_, ?_, ?_, ?_⟩) (r5.to (fun b hb i => gg b (by omega) (by omega) (by omega) (by omega) i) (out 109 13 (by omega) (by omega) (by omega) (by omega)))
    · rcases hb with rfl | rfl | rfl
      · exact g12 1 (Or.inl rfl) i
      · exact g12 2 (Or.inr rfl) i
      · exact gg 113 (by omega) (by omega) (by omega) (by omega) i
    · rfl
    · rfl
    · refine LaOk.cp (B := 3) (by omega) r1 (fun c c1 c2 i => ?_)
      show (if c = 112 ∧ i < 306 then hI k1 110 i else hI k1 c i) = _
      rw [if_neg (by omega)]
      show hI (setI (setI (chI h g1) 0 9 1) 109 39 1) c i = _
      rw [hI_setI, if_neg (by omega), hI_setI, if_neg (by omega)]
      rfl
    · refine LaRel.cp (B := 3) (M := 110) (by omega) r1 r2 (fun c c1 c2 i => ?_) (fun i hi => ?_)
      · show (if c = 112 ∧ i < 306 then hI k1 110 i else hI k1 c i) = _
        rw [if_neg (by omega)]
        show hI (setI (setI (chI h g1) 0 9 1) 109 39 1) c i = _
        rw [hI_setI, if_neg (by omega), hI_setI, if_neg (by omega)]
        rfl
      · show (if 112 = 112 ∧ i < 306 then hI k1 110 i else hI k1 112 i) = _
        rw [if_pos ⟨rfl, hi⟩]
        exact k110 110 i (by omega) (by omega) (by omega)
theorem P29 : Pr Rel 29 132 [] := by
  intro h r
  obtain ⟨rb, dr, jd, w, r1, r2, r3, r4, r5⟩ := id r
  have hrb := lw_rb w
  rcases r4 with ⟨z1, z2⟩ | ⟨z1, z2, r6, r7⟩
  · refine ⟨0, h, h, ?_, ?_, (WMd w).1, r⟩
    · rw [show DD = 99 + 1 from rfl, E29]
      simp only [bI_some, bV_some, bR_some, bL_some, ob_some, cd_t, cd_f, cd_d, okO_setI, okA_setI, okL_setI, aLen_setI, hR_setI, hI_setI, Bool.true_and, Bool.and_true, Bool.and_self, Option.isNone_some, Option.isSome_some, Option.isNone_none, Option.isSome_none, okO_chI, okA_chI, okL_chI, aLen_chI, hR_chI, WRt w, z1]
      rfl
    · rw [show DD = 99 + 1 from rfl, E132]
      simp only [bI_some, bV_some, bR_some, bL_some, ob_some, cd_t, cd_f, cd_d, okO_setI, okA_setI, okL_setI, aLen_setI, hR_setI, hI_setI, Bool.true_and, Bool.and_true, Bool.and_self, Option.isNone_some, Option.isSome_some, Option.isNone_none, Option.isSome_none, okO_chI, okA_chI, okL_chI, aLen_chI, hR_chI, WMd w, z2]
      rfl
  · let h1 := chI h (fun c i => if c = 3 ∧ (i = 1 ∨ i = 2) then hI h 29 i else lcp h 3 29 8 c i)
    have w1 : Wf rb dr jd h1 := w
    have out1 : ∀ c i, (c < 3 ∨ 29 ≤ c) → hI h1 c i = hI h c i := fun c i hc => lcp_out (by omega)
    let h2 := chI h1 (fun b i => if b = 110 ∧ i < 306 then hI h1 112 i else hI h1 b i)
    have out : ∀ c i, (c < 3 ∨ 29 ≤ c) → c ≠ 110 → hI h2 c i = hI h c i := fun c i hc hn => by
      show (if c = 110 ∧ i < 306 then hI h1 112 i else hI h1 c i) = _
      rw [if_neg (fun q => hn q.1)]
      exact out1 c i hc
    have n1 : ¬ (1 : Int32) = 0 := by decide
    refine ⟨1, h1, h2, ?_, ?_, (WMd w1).1, ?_⟩
    · rw [show DD = 99 + 1 from rfl, E29]
      have call := S191 w (Or.inl rfl : isL 3) (Or.inr (Or.inl rfl) : isL 29) (by omega) r6 97
      simp only [bI_some, bV_some, bR_some, bL_some, ob_some, cd_t, cd_f, cd_d, okO_setI, okA_setI, okL_setI, aLen_setI, hR_setI, hI_setI, Bool.true_and, Bool.and_true, Bool.and_self, Option.isNone_some, Option.isSome_some, Option.isNone_none, Option.isSome_none, okO_chI, okA_chI, okL_chI, aLen_chI, hR_chI, WRt w, z1, n1, not_false_eq_true, if_true]
      rw [call]
      rfl
    · rw [show DD = 99 + 1 from rfl, E132]
      have z3 : hI h1 109 39 = 1 := (out1 109 39 (by omega)).trans z2
      have call := S38 w1 98 112 110 (fun x => by simp only [WMd w1]) (fun x => by simp only [WMd w1]) (by omega)
      simp only [bI_some, bV_some, bR_some, bL_some, ob_some, cd_t, cd_f, cd_d, okO_setI, okA_setI, okL_setI, aLen_setI, hR_setI, hI_setI, Bool.true_and, Bool.and_true, Bool.and_self, Option.isNone_some, Option.isSome_some, Option.isNone_none, Option.isSome_none, okO_chI, okA_chI, okL_chI, aLen_chI, hR_chI, WMd w1, z3, n1, not_false_eq_true, if_true]
      rw [call]
      rfl
    · have a1 : ∀ c, 3 ≤ c → c < 3 + 26 → ∀ i, hI h2 c i = if c = 3 ∧ (i = 1 ∨ i = 2) then hI h 29 i else lcp h 3 29 8 c i := fun c c1 c2 i => by
        show (if c = 110 ∧ i < 306 then hI h1 112 i else hI h1 c i) = _
        rw [if_neg (by omega)]
        rfl
      have a2 : ∀ i, i < 306 → hI h2 110 i = hI h 112 i := fun i hi => by
        show (if 110 = 110 ∧ i < 306 then hI h1 112 i else hI h1 110 i) = _
        rw [if_pos ⟨rfl, hi⟩]
        exact out1 112 i (by omega)
      refine Rel_mk (w : Wf rb dr jd h2) (LaOk.cp (B := 29) (by omega) r6 a1) (LaRel.cp (B := 29) (M := 112) (by omega) r6 r7 a1 a2) (r3.to (fun b hb i => out b i (by omega) (by omega)) (out 109 4 (by omega) (by omega))) (Or.inr ⟨(out 0 9 (by omega) (by omega)).trans z1, (out 109 39 (by omega) (by omega)).trans z2, r6.to (fun b b1 b2 i => out b i (by omega) (by omega)), r7.to (fun b hb i => out b i (by omega) (by omega))⟩) (r5.to (fun b hb i => out b i (by omega) (by omega)) (out 109 13 (by omega) (by omega)))
