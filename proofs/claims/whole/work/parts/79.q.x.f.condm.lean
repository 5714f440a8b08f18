/-! the law's text: the model's condition from its bracket on -/
theorem cbd_r (r : RC) : cbd r (fun p c n => Sum.inr (p, c, n)) = r := by
  rcases r with e | ⟨p, c, n⟩
  · rfl
  · rfl
def tlR (t : Nat → Nat) (L p : Nat) : RC := if p < L ∧ t p = 40 then cbd (anyT t L (tsG t L 5) (p + 1) czz 0) (clL t L 41) else Sum.inl (1, p)
theorem tail_R (t : Nat → Nat) (L s : Nat) (A : Nat × CC) (p : Nat) : tailT t L s A p = (match tlR t L p with
    | .inl e => Sum.inl e
    | .inr q => Sum.inr (q.1, s, A, (q.2.2, q.2.1))) := by
  unfold tailT tlR
  by_cases z : p < L ∧ t p = 40
  · rw [if_pos z, if_pos z]
    rcases anyT t L (tsG t L 5) (p + 1) czz 0 with e | q
    · rfl
    · show _ = (match clL t L 41 q.1 q.2.1 q.2.2 with
        | .inl e => Sum.inl e
        | .inr q => Sum.inr (q.1, s, A, (q.2.2, q.2.1)))
      unfold clL
      by_cases y : q.1 < L ∧ t q.1 = 41
      · rw [if_pos y]
        show (if q.1 < L ∧ t q.1 = 41 then _ else _) = _
        rw [if_pos y]
      · rw [if_neg y]
        show (if q.1 < L ∧ t q.1 = 41 then _ else _) = _
        rw [if_neg y]
  · rw [if_neg z, if_neg z]
theorem MS.st {h : rz_H} {N : Nat} {t : Nat → Nat} {L ms p : Nat} (m : MT h N t L p) (e10 : hI h 109 10 = nI ms) (h' : rz_H) (f : FM ms h h') (e5 : hI h' 109 5 = hI h 109 5) (e10' : hI h' 109 10 = hI h 109 10) (e11 : hI h' 109 11 = 0) (e9 : hI h' 109 9 = 0) : MS h h' N t L ms p czz 0 [] 0 := ⟨f, m.fm (fun b i hb => f.2 b i (by omega) (by omega) (by omega)) (e5.trans m.2.2.2.1) m.2.2.2.2, e10'.trans (e10.trans (by rw [Nat.add_zero])), fun i hi => absurd hi (by omega), e11, trivial, e9⟩
theorem K67 {rb dr : Nat} {jd : Option Nat} {h : rz_H} (w : Wf rb dr jd h) {N : Nat} {t : Nat → Nat} {L ms p : Nat} (hb : ∀ i, i < L → t i < 256) (hL : L ≤ 240) (m : MT h N t L p) (e10 : hI h 109 10 = nI ms) (hms : ms ≤ p) (hp : p ≤ L) (d : Nat) : TR h N t L ms p (tlR t L p) (cW (d + 7) 67 [rz_r (some 109)] h) := by
  have p40 := pkk_eq (t := t) (L := L) (p := p) (m := 40) (hb p) (by omega)
  unfold tlR
  rw [X67]
  by_cases z : p < L ∧ t p = 40
  · have zp : pkI t L p = 40 := p40.mpr z
    let h1 := setI h 109 9 0
    let h2 := setI h1 109 11 0
    have w1 : Wf rb dr jd h1 := w
    have w2 : Wf rb dr jd h2 := w
    have oo : ∀ b i, ¬ (b = 109 ∧ (i = 9 ∨ i = 11)) → hI h2 b i = hI h b i := fun b i n => by
      show hI (setI (setI h 109 9 0) 109 11 0) b i = _
      rw [hI_setI, if_neg (by omega), hI_setI, if_neg (by omega)]
    have s2 : MS h h2 N t L ms p czz 0 [] 0 := MS.st m e10 h2 ⟨rfl, fun b i n1 n2 n3 => oo b i (by omega)⟩ (oo 109 5 (by omega)) (oo 109 10 (by omega)) (by show hI (setI h1 109 11 0) 109 11 = _; rw [hI_setI, if_pos ⟨rfl, rfl⟩]) (by show hI (setI (setI h 109 9 0) 109 11 0) 109 9 = _; rw [hI_setI, if_neg (by omega), hI_setI, if_pos ⟨rfl, rfl⟩])
    obtain ⟨h3, e3, s3⟩ := s2.op w (by omega) (by decide) (by omega) (k := 13) (by omega) (d + 5)
    have e3 : cW (d + 6) 55 [rz_r (some 109), rz_i 13] h2 = some (rz_i 1, h3) := e3
    have tk : TOk czz 0 [some (none, none)] := fun m hm => by
      rcases List.mem_cons.mp hm with e | hm
      · cases e
        exact ⟨fun j hj => absurd hj (by simp), fun j hj => absurd hj (by simp)⟩
      · exact absurd hm (by simp)
    have o := (K67l w (ms := ms) hb hL d (L - (p + 1))).1 (p + 1) czz 0 [some (none, none)] 5 h3 (Nat.le_refl _) ⟨s3, rfl, tk, Or.inl rfl, by show ms + 0 + 0 ≤ p + 1; omega, by show 1 ≤ p + 1; omega, by omega⟩
    refine o.le (by omega) ?_ ?_
    · rw [if_pos z, ← any_aT]
      refine cbd_cg fun q _ => ?_
      show clL t L 41 q.1 q.2.1 q.2.2 = cbd (clL t L 41 q.1 q.2.1 q.2.2) (fun p c n => Sum.inr (p, c, n))
      rw [cbd_r]
    · simp only [bI_some, bV_some, bR_some, bL_some, ob_some, cd_t, cd_f, cd_d, okO_setI, okA_setI, okL_setI, aLen_setI, hR_setI, hI_setI, Bool.true_and, Bool.and_true, Bool.and_self, Option.isNone_some, Option.isSome_some, Option.isNone_none, Option.isSome_none, okO_chI, okA_chI, okL_chI, aLen_chI, hR_chI, ↓reduceIte, not_true_eq_false, not_false_eq_true, eq_self, c10, WMd w, K49 w m, zp]
      rw [X67_10]
      simp only [cd_t, (WMd w).1]
      rw [show setI h 109 9 0 = h1 from rfl, X67_13]
      simp only [cd_t, (WMd w1).1]
      rw [show setI h1 109 11 0 = h2 from rfl, X67_16]
      generalize h2 = g2 at *
      simp only [bI_some, bV_some, bR_some, bL_some, ob_some, cd_t, cd_f, cd_d, okO_setI, okA_setI, okL_setI, aLen_setI, hR_setI, hI_setI, Bool.true_and, Bool.and_true, Bool.and_self, Option.isNone_some, Option.isSome_some, Option.isNone_none, Option.isSome_none, okO_chI, okA_chI, okL_chI, aLen_chI, hR_chI, ↓reduceIte, not_true_eq_false, not_false_eq_true, eq_self, c10, WMd w2, e3]
  · have zp : ¬ pkI t L p = 40 := fun y => z (p40.mp y)
    have k51 := fun d => K51 w 1 p d
    rw [show nI 1 = (1 : Int32) from rfl] at k51
    rw [if_neg z]
    refine ⟨setI h 109 7 (erI 1 p), Or.inl ⟨_, rfl, ?_, ⟨rfl, fun b i n1 n2 n3 => by rw [hI_setI, if_neg (by omega)]⟩, by rw [hI_setI, if_pos ⟨rfl, rfl⟩]⟩⟩
    simp only [bI_some, bV_some, bR_some, bL_some, ob_some, cd_t, cd_f, cd_d, okO_setI, okA_setI, okL_setI, aLen_setI, hR_setI, hI_setI, Bool.true_and, Bool.and_true, Bool.and_self, Option.isNone_some, Option.isSome_some, Option.isNone_none, Option.isSome_none, okO_chI, okA_chI, okL_chI, aLen_chI, hR_chI, ↓reduceIte, not_true_eq_false, not_false_eq_true, eq_self, c10, WMd w, K49 w m, zp, X67_4, m.2.2.2.1, k51]
    rfl
