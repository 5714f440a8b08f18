/-! the law's text: the class's reader, amounts -/
theorem isR81 : isR 81 := Or.inl rfl
def FL (dr cs : Nat) (h0 h : rz_H) : Prop := h.2 = h0.2 ∧ ∀ b i, ¬ (b = 81 ∧ 2 ≤ i ∧ i ≤ 4) → ¬ (b = dr ∧ i = 6) → ¬ ((b = dr + 4 ∨ b = dr + 5) ∧ cs ≤ i) → hI h b i = hI h0 b i
def FE (dr : Nat) (h0 h : rz_H) : Prop := h.2 = h0.2 ∧ ∀ b i, b ≠ 81 → ¬ (dr ≤ b ∧ b ≤ dr + 5) → hI h b i = hI h0 b i
def vlC (cs : Nat) (o : Nat × Nat) : Nat := if (o.1 = 4 ∨ o.1 = 5) ∧ 0 < o.2 then cs + o.2 else o.2
def Lz (dr cs : Nat) (h0 h : rz_H) (L p : Nat) (c : CC) (n : Nat) : Prop := FL dr cs h0 h ∧ Rs 81 h L p ∧ hI h dr 6 = nI (cs + n) ∧ ∀ i, i < n → hI h (dr + 4) (cs + i) = nI (c i).1 ∧ hI h (dr + 5) (cs + i) = nI (vlC cs (c i))
def Le (dr : Nat) (h0 h : rz_H) (e : Nat × Nat) : Prop := FE dr h0 h ∧ Re 81 h e ∧ 0 < e.1 ∧ e.1 < 10
def Oz (dr cs : Nat) (h0 h' : rz_H) (L : Nat) (z : RC) : Prop := (∃ e, z = Sum.inl e ∧ Le dr h0 h' e) ∨ (∃ q, z = Sum.inr q ∧ Lz dr cs h0 h' L q.1 q.2.1 q.2.2)
theorem FL.fe {dr cs : Nat} {h0 h : rz_H} (f : FL dr cs h0 h) : FE dr h0 h := ⟨f.1, fun b i n1 n2 => f.2 b i (by omega) (by omega) (by omega)⟩
theorem isW_dr {rb dr : Nat} {jd : Option Nat} {h : rz_H} (w : Wf rb dr jd h) : isW dr := by
  rcases lw_rb w with ⟨-, e⟩ | ⟨-, e⟩
  · exact Or.inl e
  · exact Or.inr e
theorem isW_n {dr : Nat} (h : isW dr) : dr = 82 ∨ dr = 96 := h
theorem Tq.fe {h h' : rz_H} {N : Nat} {t : Nat → Nat} (T : Tq h N t) {dr : Nat} (hd : isW dr) (f : FE dr h h') : Tq h' N t := by
  have := isW_n hd
  exact T.q fun b i hb => f.2 b i (by omega) (by omega)
theorem FE.tr {dr : Nat} {h h1 h2 : rz_H} (a : FE dr h h1) (b : FE dr h1 h2) : FE dr h h2 := ⟨b.1.trans a.1, fun c i n1 n2 => (b.2 c i n1 n2).trans (a.2 c i n1 n2)⟩
/-- from a sound state into a fault -/
theorem Lz.bl {dr cs : Nat} {h0 h : rz_H} {L p : Nat} {c : CC} {n : Nat} (s : Lz dr cs h0 h L p c n) (f q : Nat) (h1 : 0 < f) (h2 : f < 10) : Le dr h0 (setI (setI h 81 3 (nI f)) 81 4 (nI q)) (f, q) := ⟨s.1.fe.tr ⟨rfl, fun b i n1 n2 => by rw [hI_setI, if_neg (by omega), hI_setI, if_neg (by omega)]⟩, Re.bl 81 h f q, h1, h2⟩
theorem Lz.go {dr cs : Nat} (hd : isW dr) {h0 h : rz_H} {L p : Nat} {c : CC} {n : Nat} (s : Lz dr cs h0 h L p c n) (q : Nat) : Lz dr cs h0 (setI h 81 2 (nI q)) L q c n := by
  have := isW_n hd
  refine ⟨⟨s.1.1, fun b i n1 n2 n3 => by rw [hI_setI, if_neg (by omega)]; exact s.1.2 b i n1 n2 n3⟩, s.2.1.go q, by rw [hI_setI, if_neg (by omega)]; exact s.2.2.1, fun i hi => ⟨by rw [hI_setI, if_neg (by omega)]; exact (s.2.2.2 i hi).1, by rw [hI_setI, if_neg (by omega)]; exact (s.2.2.2 i hi).2⟩⟩
theorem Lz.fr {dr cs : Nat} (hd : isW dr) {h0 h h' : rz_H} {L p q : Nat} {c : CC} {n : Nat} (s : Lz dr cs h0 h L p c n) (f : Fr 81 h h') (r : Rs 81 h' L q) : Lz dr cs h0 h' L q c n := by
  have := isW_n hd
  exact ⟨⟨f.1.trans s.1.1, fun b i n1 n2 n3 => (f.2 b i n1).trans (s.1.2 b i n1 n2 n3)⟩, r, (f.2 _ _ (by omega)).trans s.2.2.1, fun i hi => ⟨(f.2 _ _ (by omega)).trans (s.2.2.2 i hi).1, (f.2 _ _ (by omega)).trans (s.2.2.2 i hi).2⟩⟩
theorem Lz.er {dr cs : Nat} {h0 h h' : rz_H} {L p : Nat} {c : CC} {n : Nat} (s : Lz dr cs h0 h L p c n) (f : Fr 81 h h') {e : Nat × Nat} (r : Re 81 h' e) (h1 : 0 < e.1) (h2 : e.1 < 10) : Le dr h0 h' e := ⟨s.1.fe.tr ⟨f.1, fun b i n1 n2 => f.2 b i (by omega)⟩, r, h1, h2⟩
/-! a step is added -/
theorem G197 {rb dr : Nat} {jd : Option Nat} {h : rz_H} (w : Wf rb dr jd h) {m : Nat} (e6 : hI h dr 6 = nI m) (hm : m < 256) (x y : Int32) (d : Nat) : cW (d + 1) 197 [rz_r (some dr), rz_i x, rz_i y] h = some (rz_i (nI m), setI (setI (setI h (dr + 4) m x) (dr + 5) m y) dr 6 (nI (m + 1))) := by
  have hd := isW_dr w
  have n0 : ¬ nI m < 0 := Int32.not_lt.mpr (nI_pos' (by omega))
  rw [E197]
  simp (disch := omega) only [↓cd_d, ↓irem_eq_mod, ↓ob_setI, ↓ob_chI, ↓ob_some, bI_some, bV_some, bR_some, bL_some, ob_some, cd_t, cd_f, okO_setI, okA_setI, okL_setI, aLen_setI, hR_setI, hI_setI, Bool.true_and, Bool.and_true, Bool.and_self, Option.isNone_some, Option.isSome_some, Option.isNone_none, Option.isSome_none, okO_chI, okA_chI, okL_chI, aLen_chI, hR_chI, ↓reduceIte, not_true_eq_false, not_false_eq_true, eq_self, c10, Nat.zero_add, nI_add, litA, litB, litM, nI_mul, nI_leI, nI_ltI, nI_eq, litLe, litLe2, litLt, litLt2, litEq, litEq2, in_nI, lit_in, nI_clamp, lit_cl, if_pos, if_neg, ↓WLwb w hd, WLw w hd, e6, n0]
theorem A197 {rb dr : Nat} {jd : Option Nat} {h : rz_H} (w : Wf rb dr jd h) (x y : Int32) (d : Nat) : ∃ v h', cW (d + 1) 197 [rz_r (some dr), rz_i x, rz_i y] h = some (rz_i v, h') ∧ h'.2 = h.2 ∧ ∀ b i, ¬ (dr ≤ b ∧ b ≤ dr + 5) → hI h' b i = hI h b i := by
  have hd := isW_dr w
  by_cases n0 : hI h dr 6 < 0
  · refine ⟨hI h dr 6, h, ?_, rfl, fun _ _ _ => rfl⟩
    rw [E197]
    simp only [bI_some, bV_some, bR_some, bL_some, ob_some, cd_t, cd_f, cd_d, okO_setI, okA_setI, okL_setI, aLen_setI, hR_setI, hI_setI, Bool.true_and, Bool.and_true, Bool.and_self, Option.isNone_some, Option.isSome_some, Option.isNone_none, Option.isSome_none, okO_chI, okA_chI, okL_chI, aLen_chI, hR_chI, ↓reduceIte, not_true_eq_false, not_false_eq_true, eq_self, c10, WLw w hd, if_pos n0]
  · obtain ⟨m, hm, em⟩ := nI_of n0
    by_cases c : m < 256
    · exact ⟨_, _, G197 w em c x y d, rfl, fun b i n => by rw [hI_setI, if_neg (by omega), hI_setI, if_neg (by omega), hI_setI, if_neg (by omega)]⟩
    · refine ⟨nI m, h, ?_, rfl, fun _ _ _ => rfl⟩
      have n0 : ¬ nI m < 0 := Int32.not_lt.mpr (nI_pos' hm)
      have g : (256 : Int32) ≤ nI m := nI_le (a := 256) (by omega) hm
      rw [E197]
      simp only [bI_some, bV_some, bR_some, bL_some, ob_some, cd_t, cd_f, cd_d, okO_setI, okA_setI, okL_setI, aLen_setI, hR_setI, hI_setI, Bool.true_and, Bool.and_true, Bool.and_self, Option.isNone_some, Option.isSome_some, Option.isNone_none, Option.isSome_none, okO_chI, okA_chI, okL_chI, aLen_chI, hR_chI, ↓reduceIte, not_true_eq_false, not_false_eq_true, eq_self, c10, ↓WLwb w hd, WLw w hd, em, if_neg n0, if_pos g]
theorem Le.add {rb dr : Nat} {jd : Option Nat} {h0 : rz_H} (w0 : Wf rb dr jd h0) {h : rz_H} {e : Nat × Nat} (s : Le dr h0 h e) (x y : Int32) (d : Nat) : ∃ v h', cW (d + 1) 197 [rz_r (some dr), rz_i x, rz_i y] h = some (rz_i v, h') ∧ Le dr h0 h' e := by
  have hd := isW_n (isW_dr w0)
  have w : Wf rb dr jd h := w0.e s.1.1
  obtain ⟨v, h', e1, q1, q2⟩ := A197 w x y d
  exact ⟨v, h', e1, s.1.tr ⟨q1, fun b i n1 n2 => q2 b i n2⟩, ⟨(q2 81 3 (by omega)).trans s.2.1.1, (q2 81 4 (by omega)).trans s.2.1.2⟩, s.2.2⟩
theorem Lz.add {rb dr : Nat} {jd : Option Nat} {h0 : rz_H} (w0 : Wf rb dr jd h0) {cs : Nat} {h : rz_H} {L p : Nat} {c : CC} {n : Nat} (s : Lz dr cs h0 h L p c n) (hn : cs + n < 256) (o : Nat × Nat) (d : Nat) : ∃ h', cW (d + 1) 197 [rz_r (some dr), rz_i (nI o.1), rz_i (nI (vlC cs o))] h = some (rz_i (nI (cs + n)), h') ∧ Lz dr cs h0 h' L p (psh c n o) (n + 1) := by
  have hd := isW_n (isW_dr w0)
  have w : Wf rb dr jd h := w0.e s.1.1
  refine ⟨_, G197 w s.2.2.1 hn _ _ d, ⟨s.1.1, fun b i n1 n2 n3 => by rw [hI_setI, if_neg (by omega), hI_setI, if_neg (by omega), hI_setI, if_neg (by omega)]; exact s.1.2 b i n1 n2 n3⟩, ⟨by rw [hI_setI, if_neg (by omega), hI_setI, if_neg (by omega), hI_setI, if_neg (by omega)]; exact s.2.1.1, by rw [hI_setI, if_neg (by omega), hI_setI, if_neg (by omega), hI_setI, if_neg (by omega)]; exact s.2.1.2.1, by rw [hI_setI, if_neg (by omega), hI_setI, if_neg (by omega), hI_setI, if_neg (by omega)]; exact s.2.1.2.2⟩, by rw [hI_setI, if_pos ⟨rfl, rfl⟩]; rfl, fun i hi => ?_⟩
  show _ = nI (if i = n then o else c i).1 ∧ _ = nI (vlC cs (if i = n then o else c i))
  by_cases ei : i = n
  · subst ei
    rw [if_pos rfl]
    exact ⟨by rw [hI_setI, if_neg (by omega), hI_setI, if_neg (by omega), hI_setI, if_pos ⟨rfl, rfl⟩], by rw [hI_setI, if_neg (by omega), hI_setI, if_pos ⟨rfl, rfl⟩]⟩
  · rw [if_neg ei]
    obtain ⟨a1, a2⟩ := s.2.2.2 i (by omega)
    exact ⟨by rw [hI_setI, if_neg (by omega), hI_setI, if_neg (by omega), hI_setI, if_neg (by omega)]; exact a1, by rw [hI_setI, if_neg (by omega), hI_setI, if_neg (by omega), hI_setI, if_neg (by omega)]; exact a2⟩
/-! in a fault nothing moves -/
theorem lkI {t : Nat → Nat} {L p : Nat} (hb : p < L → t p < 256) (d : Nat) (h : rz_H) : cW (d + 1) 217 [rz_i (pkI t L p)] h = some (rz_i (if p < L ∧ lkT (t p) = true then 1 else 0), h) := by
  have pe := fun m (hm : m < 1000) => pkk_eq (t := t) (L := L) (p := p) (m := m) hb hm
  have q1 : pkI t L p = 107 ↔ p < L ∧ t p = 107 := pe 107 (by omega)
  have q2 : pkI t L p = 112 ↔ p < L ∧ t p = 112 := pe 112 (by omega)
  have q3 : pkI t L p = 110 ↔ p < L ∧ t p = 110 := pe 110 (by omega)
  have q4 : pkI t L p = 117 ↔ p < L ∧ t p = 117 := pe 117 (by omega)
  have q5 : pkI t L p = 102 ↔ p < L ∧ t p = 102 := pe 102 (by omega)
  have q6 : pkI t L p = 115 ↔ p < L ∧ t p = 115 := pe 115 (by omega)
  have q7 : pkI t L p = 103 ↔ p < L ∧ t p = 103 := pe 103 (by omega)
  have q8 : pkI t L p = 116 ↔ p < L ∧ t p = 116 := pe 116 (by omega)
  have q9 : pkI t L p = 119 ↔ p < L ∧ t p = 119 := pe 119 (by omega)
  have lk : lkT (t p) = true ↔ (t p = 107 ∨ t p = 112 ∨ t p = 110 ∨ t p = 117 ∨ t p = 102 ∨ t p = 115 ∨ t p = 103 ∨ t p = 116 ∨ t p = 119) := ⟨of_decide_eq_true, decide_eq_true⟩
  rw [E217]
  generalize pkI t L p = x at q1 q2 q3 q4 q5 q6 q7 q8 q9 ⊢
  simp only [bI_some, bV_some, bR_some, bL_some, ob_some, cd_t, cd_f, cd_d, okO_setI, okA_setI, okL_setI, aLen_setI, hR_setI, hI_setI, Bool.true_and, Bool.and_true, Bool.and_self, Option.isNone_some, Option.isSome_some, Option.isNone_none, Option.isSome_none, okO_chI, okA_chI, okL_chI, aLen_chI, hR_chI, ↓reduceIte, not_true_eq_false, not_false_eq_true, eq_self, c10]
  by_cases c1 : x = 107
  · rw [if_pos c1, if_pos ⟨(q1.mp c1).1, lk.mpr (by have := (q1.mp c1).2; omega)⟩]
  · rw [if_neg c1]
    by_cases c2 : x = 112
    · rw [if_pos c2, if_pos ⟨(q2.mp c2).1, lk.mpr (by have := (q2.mp c2).2; omega)⟩]
    · rw [if_neg c2]
      by_cases c3 : x = 110
      · rw [if_pos c3, if_pos ⟨(q3.mp c3).1, lk.mpr (by have := (q3.mp c3).2; omega)⟩]
      · rw [if_neg c3]
        by_cases c4 : x = 117
        · rw [if_pos c4, if_pos ⟨(q4.mp c4).1, lk.mpr (by have := (q4.mp c4).2; omega)⟩]
        · rw [if_neg c4]
          by_cases c5 : x = 102
          · rw [if_pos c5, if_pos ⟨(q5.mp c5).1, lk.mpr (by have := (q5.mp c5).2; omega)⟩]
          · rw [if_neg c5]
            by_cases c6 : x = 115
            · rw [if_pos c6, if_pos ⟨(q6.mp c6).1, lk.mpr (by have := (q6.mp c6).2; omega)⟩]
            · rw [if_neg c6]
              by_cases c7 : x = 103
              · rw [if_pos c7, if_pos ⟨(q7.mp c7).1, lk.mpr (by have := (q7.mp c7).2; omega)⟩]
              · rw [if_neg c7]
                by_cases c8 : x = 116
                · rw [if_pos c8, if_pos ⟨(q8.mp c8).1, lk.mpr (by have := (q8.mp c8).2; omega)⟩]
                · rw [if_neg c8]
                  by_cases c9 : x = 119
                  · rw [if_neg (show ¬ ¬ x = 119 from fun z => z c9), if_pos ⟨(q9.mp c9).1, lk.mpr (by have := (q9.mp c9).2; omega)⟩]
                  · rw [if_pos c9, if_neg]
                    intro z
                    have hp := z.1
                    rcases lk.mp z.2 with u | u | u | u | u | u | u | u | u
                    · exact c1 (q1.mpr ⟨hp, u⟩)
                    · exact c2 (q2.mpr ⟨hp, u⟩)
                    · exact c3 (q3.mpr ⟨hp, u⟩)
                    · exact c4 (q4.mpr ⟨hp, u⟩)
                    · exact c5 (q5.mpr ⟨hp, u⟩)
                    · exact c6 (q6.mpr ⟨hp, u⟩)
                    · exact c7 (q7.mpr ⟨hp, u⟩)
                    · exact c8 (q8.mpr ⟨hp, u⟩)
                    · exact c9 (q9.mpr ⟨hp, u⟩)
theorem ltsm : ¬ (-1 : Int32) = 91 ∧ ¬ (-1 : Int32) = 42 ∧ ¬ (-1 : Int32) = 47 ∧ ¬ (-1 : Int32) = 37 ∧ ¬ (-1 : Int32) = 43 ∧ ¬ (-1 : Int32) = 45 ∧ ¬ (-1 : Int32) = 33 ∧ ¬ (-1 : Int32) = 40 ∧ ¬ (-1 : Int32) = 60 ∧ ¬ (-1 : Int32) = 62 ∧ ¬ (-1 : Int32) = 61 ∧ ¬ (-1 : Int32) = 38 ∧ ¬ (-1 : Int32) = 124 := by decide
theorem R217e (d : Nat) (h : rz_H) : cW (d + 1) 217 [rz_i (-1)] h = some (rz_i 0, h) := by
  have := lkI (t := fun _ => 0) (L := 0) (p := 0) (fun z => absurd z (by omega)) d h
  rw [pkk_out (by omega), if_neg (by omega)] at this
  exact this
theorem C215e {rb dr : Nat} {jd : Option Nat} {h : rz_H} (w : Wf rb dr jd h) (e3 : ¬ hI h 81 3 = 0) (x : Int32) (d : Nat) : cW (d + 3) 215 [rz_r (some 81), rz_i x] h = some (rz_i 0, h) := by
  rw [X215]
  simp only [bI_some, bV_some, bR_some, bL_some, ob_some, cd_t, cd_f, cd_d, okO_setI, okA_setI, okL_setI, aLen_setI, hR_setI, hI_setI, Bool.true_and, Bool.and_true, Bool.and_self, Option.isNone_some, Option.isSome_some, Option.isNone_none, Option.isSome_none, okO_chI, okA_chI, okL_chI, aLen_chI, hR_chI, ↓reduceIte, not_true_eq_false, not_false_eq_true, eq_self, c10, WLr w, R227e w isR81 e3, X215_3, ltsm, X215_19, R236e, X215_31, R217e, X215_43, R232e w isR81 e3, X215_45]
theorem L214e {rb dr : Nat} {jd : Option Nat} {h : rz_H} (w : Wf rb dr jd h) (e3 : ¬ hI h 81 3 = 0) (x i : Int32) (d : Nat) (j3 : Option rz_V) : rW (d + 3) 214 (5, (0, 0), [some (rz_r (some 81)), some (rz_i x), some (rz_i i), j3], [], h) = some (rz_i 0, h) := by
  rw [X214_5]
  by_cases c : (240 : Int32) ≤ i
  · simp only [bI_some, bV_some, bR_some, bL_some, ob_some, cd_t, cd_f, cd_d, okO_setI, okA_setI, okL_setI, aLen_setI, hR_setI, hI_setI, Bool.true_and, Bool.and_true, Bool.and_self, Option.isNone_some, Option.isSome_some, Option.isNone_none, Option.isSome_none, okO_chI, okA_chI, okL_chI, aLen_chI, hR_chI, ↓reduceIte, not_true_eq_false, not_false_eq_true, eq_self, c10, c, X214_36]
  · simp only [bI_some, bV_some, bR_some, bL_some, ob_some, cd_t, cd_f, cd_d, okO_setI, okA_setI, okL_setI, aLen_setI, hR_setI, hI_setI, Bool.true_and, Bool.and_true, Bool.and_self, Option.isNone_some, Option.isSome_some, Option.isNone_none, Option.isSome_none, okO_chI, okA_chI, okL_chI, aLen_chI, hR_chI, ↓reduceIte, not_true_eq_false, not_false_eq_true, eq_self, c10, c, X214_8, WLr w, R227e w isR81 e3, ltsm, X214_12, X214_16, X214_36]
theorem C214e {rb dr : Nat} {jd : Option Nat} {h : rz_H} (w : Wf rb dr jd h) (e3 : ¬ hI h 81 3 = 0) (x : Int32) (d : Nat) : cW (d + 4) 214 [rz_r (some 81), rz_i x] h = some (rz_i 0, h) := by
  rw [X214]
  simp only [bI_some, bV_some, bR_some, bL_some, ob_some, cd_t, cd_f, cd_d, okO_setI, okA_setI, okL_setI, aLen_setI, hR_setI, hI_setI, Bool.true_and, Bool.and_true, Bool.and_self, Option.isNone_some, Option.isSome_some, Option.isNone_none, Option.isSome_none, okO_chI, okA_chI, okL_chI, aLen_chI, hR_chI, ↓reduceIte, not_true_eq_false, not_false_eq_true, eq_self, c10, WLr w, C215e w e3, X214_3]
  exact L214e w e3 x 0 d none
theorem L213e {rb dr : Nat} {jd : Option Nat} {h : rz_H} (w : Wf rb dr jd h) (e3 : ¬ hI h 81 3 = 0) (x i : Int32) (d : Nat) (j3 : Option rz_V) : rW (d + 3) 213 (5, (0, 0), [some (rz_r (some 81)), some (rz_i x), some (rz_i i), j3], [], h) = some (rz_i 0, h) := by
  rw [X213_5]
  by_cases c : (240 : Int32) ≤ i
  · simp only [bI_some, bV_some, bR_some, bL_some, ob_some, cd_t, cd_f, cd_d, okO_setI, okA_setI, okL_setI, aLen_setI, hR_setI, hI_setI, Bool.true_and, Bool.and_true, Bool.and_self, Option.isNone_some, Option.isSome_some, Option.isNone_none, Option.isSome_none, okO_chI, okA_chI, okL_chI, aLen_chI, hR_chI, ↓reduceIte, not_true_eq_false, not_false_eq_true, eq_self, c10, c, X213_32]
  · simp only [bI_some, bV_some, bR_some, bL_some, ob_some, cd_t, cd_f, cd_d, okO_setI, okA_setI, okL_setI, aLen_setI, hR_setI, hI_setI, Bool.true_and, Bool.and_true, Bool.and_self, Option.isNone_some, Option.isSome_some, Option.isNone_none, Option.isSome_none, okO_chI, okA_chI, okL_chI, aLen_chI, hR_chI, ↓reduceIte, not_true_eq_false, not_false_eq_true, eq_self, c10, c, X213_8, WLr w, R227e w isR81 e3, ltsm, X213_12, X213_32]
theorem C213e {rb dr : Nat} {jd : Option Nat} {h : rz_H} (w : Wf rb dr jd h) (e3 : ¬ hI h 81 3 = 0) (x : Int32) (d : Nat) : cW (d + 5) 213 [rz_r (some 81), rz_i x] h = some (rz_i 0, h) := by
  rw [X213]
  simp only [bI_some, bV_some, bR_some, bL_some, ob_some, cd_t, cd_f, cd_d, okO_setI, okA_setI, okL_setI, aLen_setI, hR_setI, hI_setI, Bool.true_and, Bool.and_true, Bool.and_self, Option.isNone_some, Option.isSome_some, Option.isNone_none, Option.isSome_none, okO_chI, okA_chI, okL_chI, aLen_chI, hR_chI, ↓reduceIte, not_true_eq_false, not_false_eq_true, eq_self, c10, WLr w, C214e w e3, X213_3]
  exact L213e w e3 x 0 (d + 1) none
/-- a method reads what the pure reader reads -/
def SC (dr cs : Nat) (h0 : rz_H) (L M dd dep : Nat) (R : Nat → CC → Nat → RC) : Prop := ∀ h p c n, Lz dr cs h0 h L p c n → p ≤ L → cs + n ≤ p → ∃ h', cW dd M [rz_r (some 81), rz_i (nI dep)] h = some (rz_i 0, h') ∧ Oz dr cs h0 h' L (R p c n)
