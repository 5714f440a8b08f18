/-! the relation between the class's cells and the model's -/
/-- a drum at a: its numbers are in their bounds -/
def DrOk (h : rz_H) (a : Nat) : Prop := ∃ F p t v s q : Nat, hI h a 2 = nI F ∧ hI h a 3 = nI p ∧ hI h a 4 = nI t ∧ hI h a 5 = nI v ∧ hI h a 6 = nI s ∧ hI h a 7 = nI q ∧ F ≤ 16 ∧ t ≤ 999 ∧ s ≤ 15 ∧ q ≤ 1 ∧ (F = 0 → p = 0 ∧ t = 0 ∧ v = 0 ∧ s = 0 ∧ q = 0) ∧ (0 < F → p < F ∧ v < F) ∧ ∀ i, i < F → ∃ c e : Nat, hI h (a + 1) i = nI c ∧ c ≤ 16 ∧ hI h (a + 2) i = nI e ∧ e ≤ 99
/-- it is the model's drum k in the row N -/
def DrRel (h : rz_H) (a N k : Nat) : Prop := hI h a 2 = hI h N (256 + k) ∧ hI h a 3 = hI h N (264 + k) ∧ hI h a 4 = hI h N (272 + k) ∧ hI h a 5 = hI h N (280 + k) ∧ hI h a 6 = hI h N (288 + k) ∧ hI h a 7 = hI h N (296 + k) ∧ ∀ i : Nat, i < 16 → nI i < hI h a 2 → hI h (a + 1) i = hI h N (16 * k + i) ∧ hI h (a + 2) i = hI h N (128 + 16 * k + i)
def LaOk (h : rz_H) (a : Nat) : Prop := (∀ k, k < 8 → DrOk h (a + 2 + 3 * k)) ∧ (∃ t, t ≤ 9999 ∧ hI h a 1 = nI t) ∧ ∃ x, x ≤ 65535 ∧ hI h a 2 = nI x
def LaRel (h : rz_H) (a N : Nat) : Prop := (∀ k, k < 8 → DrRel h (a + 2 + 3 * k) N k) ∧ hI h a 1 = hI h N 304 ∧ hI h a 2 = hI h N 305
def TpRel (h : rz_H) : Prop := ∃ n, n ≤ 260 ∧ hI h 1 1 = nI n ∧ hI h 109 4 = nI n ∧ ∀ i, i < n → ∃ b, b < 256 ∧ hI h 2 i = nI b ∧ hI h 113 i &&& 255 = nI b
def KpRel (h : rz_H) : Prop := (hI h 0 9 = 0 ∧ hI h 109 39 = 0) ∨ (hI h 0 9 = 1 ∧ hI h 109 39 = 1 ∧ LaOk h 29 ∧ LaRel h 29 112)
/-- an operation of the class's law and one of the model's (jumps are told from the beginnings of their stretches); which things stand on the stack ahead of it and behind it (true: 0 or 1) -/
def OpR (kc vc : Int32) (cs : Nat) (om : Int32) (ms n j : Nat) (ty : Nat → List Bool) : Prop :=
  (∃ v, v < 100000 ∧ kc = 1 ∧ vc = nI v ∧ om = nI v ∧ ty (j + 1) = false :: ty j) ∨
  (∃ v, v < 9 ∧ kc = 2 ∧ vc = nI ([107, 112, 110, 117, 102, 115, 103, 116, 119].getD v 0) ∧ om = nI (1048576 + v) ∧ ty (j + 1) = false :: ty j) ∨
  (∃ g a b r, g < 8 ∧ kc = nI ([43, 45, 42, 47, 37, 60, 62, 61].getD g 0) ∧ om = nI (1048576 * (2 + g)) ∧ ty j = a :: b :: r ∧ ty (j + 1) = decide (5 ≤ g) :: r) ∨
  (∃ r, kc = 3 ∧ om = nI (1048576 * 10) ∧ ty j = true :: r ∧ ty (j + 1) = true :: r) ∨
  (∃ t r, kc = 5 ∧ vc = nI (cs + t) ∧ om = nI (1048576 * 11 + (ms + t)) ∧ ty j = true :: r ∧ ty (j + 1) = r ∧ j < t ∧ t ≤ n ∧ ty t = ty j) ∨
  (∃ t r, kc = 4 ∧ vc = nI (cs + t) ∧ om = nI (1048576 * 12 + (ms + t)) ∧ ty j = true :: r ∧ ty (j + 1) = r ∧ j < t ∧ t ≤ n ∧ ty t = ty j)
/-- a stretch of n operations, at cs in the class's law w, at ms in the model's codes -/
def CoRel (h : rz_H) (w cs ms n : Nat) (tp : Bool) : Prop := cs + n < 256 ∧ ms + n ≤ 260 ∧ hI h (w + 4) (cs + n) = 0 ∧ ∃ ty : Nat → List Bool, ty 0 = [] ∧ ty n = [tp] ∧ (∀ j, j ≤ n → (ty j).length ≤ 60) ∧ ∀ j, j < n → OpR (hI h (w + 4) (cs + j)) (hI h (w + 5) (cs + j)) cs (hI h 120 (ms + j)) ms n j ty
def LwRel (h : rz_H) (w : Nat) : Prop := ∃ n st : Nat, n ≤ 16 ∧ st ≤ 256 ∧ hI h w 5 = nI n ∧ hI h 109 13 = nI n ∧ hI h w 6 = nI st ∧ ∀ q, q < n → ∃ ca ct ma mh mt : Nat, hI h (w + 1) q = hI h 121 q ∧ hI h (w + 2) q = nI ca ∧ hI h (w + 3) q = nI ct ∧ hI h 122 q = nI ma ∧ hI h 123 q = nI mh ∧ hI h 124 q = nI mt ∧ ma ≤ mh ∧ mh ≤ mt ∧ CoRel h w ct mh (mt - mh) true ∧ ct + (mt - mh) < st ∧ ((hI h 121 q = 118 ∨ hI h 121 q = 97) → CoRel h w ca ma (mh - ma) false ∧ ca + (mh - ma) < st)
def Rel (h : rz_H) : Prop := ∃ rb dr jd, Wf rb dr jd h ∧ LaOk h 3 ∧ LaRel h 3 110 ∧ TpRel h ∧ KpRel h ∧ LwRel h rb
theorem Rel_ok (h : rz_H) (r : Rel h) : okO h 0 [9] = true := by
  obtain ⟨rb, dr, jd, w, -⟩ := r
  exact (WTp w).1
/-! each part of it looks at its own cells alone -/
theorem DrOk.to {h h2 : rz_H} {a : Nat} (g : DrOk h a) (e : ∀ b, b = a ∨ b = a + 1 ∨ b = a + 2 → ∀ i, hI h2 b i = hI h b i) : DrOk h2 a := by
  obtain ⟨F, p, t, v, s, q, g⟩ := g
  refine ⟨F, p, t, v, s, q, ?_⟩
  simp only [e a (Or.inl rfl), e (a + 1) (Or.inr (Or.inl rfl)), e (a + 2) (Or.inr (Or.inr rfl))]
  exact g
theorem DrRel.to {h h2 : rz_H} {a N k : Nat} (g : DrRel h a N k) (e : ∀ b, b = a ∨ b = a + 1 ∨ b = a + 2 ∨ b = N → ∀ i, hI h2 b i = hI h b i) : DrRel h2 a N k := by
  unfold DrRel
  simp only [e a (Or.inl rfl), e (a + 1) (Or.inr (Or.inl rfl)), e (a + 2) (Or.inr (Or.inr (Or.inl rfl))), e N (Or.inr (Or.inr (Or.inr rfl)))]
  exact g
theorem LaOk.to {h h2 : rz_H} {a : Nat} (g : LaOk h a) (e : ∀ b, a ≤ b → b < a + 26 → ∀ i, hI h2 b i = hI h b i) : LaOk h2 a := by
  refine ⟨fun k hk => (g.1 k hk).to (fun b hb i => e b (by omega) (by omega) i), ?_, ?_⟩
  · rw [e a (by omega) (by omega)]; exact g.2.1
  · rw [e a (by omega) (by omega)]; exact g.2.2
theorem LaRel.to {h h2 : rz_H} {a N : Nat} (g : LaRel h a N) (e : ∀ b, (a ≤ b ∧ b < a + 26) ∨ b = N → ∀ i, hI h2 b i = hI h b i) : LaRel h2 a N := by
  refine ⟨fun k hk => (g.1 k hk).to (fun b hb i => e b (by omega) i), ?_, ?_⟩
  · rw [e a (by omega), e N (by omega)]; exact g.2.1
  · rw [e a (by omega), e N (by omega)]; exact g.2.2
theorem TpRel.to {h h2 : rz_H} (g : TpRel h) (e : ∀ b, b = 1 ∨ b = 2 ∨ b = 113 → ∀ i, hI h2 b i = hI h b i) (e4 : hI h2 109 4 = hI h 109 4) : TpRel h2 := by
  unfold TpRel
  simp only [e 1 (Or.inl rfl), e 2 (Or.inr (Or.inl rfl)), e 113 (Or.inr (Or.inr rfl)), e4]
  exact g
theorem KpRel.to {h h2 : rz_H} (g : KpRel h) (e : ∀ b, (29 ≤ b ∧ b < 55) ∨ b = 112 → ∀ i, hI h2 b i = hI h b i) (e1 : hI h2 0 9 = hI h 0 9) (e2 : hI h2 109 39 = hI h 109 39) : KpRel h2 := by
  rcases g with ⟨g1, g2⟩ | ⟨g1, g2, g3, g4⟩
  · exact Or.inl ⟨e1.trans g1, e2.trans g2⟩
  · exact Or.inr ⟨e1.trans g1, e2.trans g2, g3.to (fun b h1 h2 i => e b (by omega) i), g4.to (fun b hb i => e b (by omega) i)⟩
theorem CoRel.to {h h2 : rz_H} {w cs ms n : Nat} {tp : Bool} (g : CoRel h w cs ms n tp) (e : ∀ b, b = w + 4 ∨ b = w + 5 ∨ b = 120 → ∀ i, hI h2 b i = hI h b i) : CoRel h2 w cs ms n tp := by
  unfold CoRel
  simp only [e (w + 4) (Or.inl rfl), e (w + 5) (Or.inr (Or.inl rfl)), e 120 (Or.inr (Or.inr rfl))]
  exact g
theorem LwRel.to {h h2 : rz_H} {w : Nat} (g : LwRel h w) (e : ∀ b, (w ≤ b ∧ b < w + 6) ∨ (120 ≤ b ∧ b < 125) → ∀ i, hI h2 b i = hI h b i) (e1 : hI h2 109 13 = hI h 109 13) : LwRel h2 w := by
  obtain ⟨n, st, g1, g2, g3, g4, g5, g6⟩ := g
  refine ⟨n, st, g1, g2, by rw [e w (by omega)]; exact g3, by rw [e1]; exact g4, by rw [e w (by omega)]; exact g5, fun q hq => ?_⟩
  obtain ⟨c1, c2, m1, m2, m3, a1, a2, a3, a4, a5, a6, a7, a8, a9, a10, a11⟩ := g6 q hq
  refine ⟨c1, c2, m1, m2, m3, ?_⟩
  simp only [e (w + 1) (by omega), e (w + 2) (by omega), e (w + 3) (by omega), e 121 (by omega), e 122 (by omega), e 123 (by omega), e 124 (by omega)]
  refine ⟨a1, a2, a3, a4, a5, a6, a7, a8, a9.to (fun b hb i => e b (by omega) i), a10, fun hq => ?_⟩
  obtain ⟨b1, b2⟩ := a11 hq
  exact ⟨b1.to (fun b hb i => e b (by omega) i), b2⟩
