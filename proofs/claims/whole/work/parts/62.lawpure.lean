/-! the first heap is in the relation; the law out of the pairs -/
theorem init_Rel {h : rz_H} (g : initOk h = true) : Rel h := by
  unfold initOk at g
  obtain ⟨g1, g⟩ := ba g
  obtain ⟨g2, g⟩ := ba g
  obtain ⟨g3, g⟩ := ba g
  obtain ⟨g4, g⟩ := ba g
  obtain ⟨g5, g⟩ := ba g
  obtain ⟨g6, g⟩ := ba g
  obtain ⟨g7, g⟩ := ba g
  obtain ⟨g8, g⟩ := ba g
  obtain ⟨g9, g⟩ := ba g
  obtain ⟨g10, g⟩ := ba g
  obtain ⟨g11, g⟩ := ba g
  obtain ⟨g12, g⟩ := ba g
  obtain ⟨g13, g⟩ := ba g
  obtain ⟨g14, g⟩ := ba g
  obtain ⟨g15, g⟩ := ba g
  obtain ⟨g16, g17⟩ := ba g
  have z : ∀ k j, k < 8 → j < 8 → hI h (3 + 2 + 3 * k) j = 0 := fun k j hk hj => by
    have := of_decide_eq_true (List.all_eq_true.mp (List.all_eq_true.mp g6 k (List.mem_range.mpr hk)) j (List.mem_range.mpr hj))
    rw [show 3 + 2 + 3 * k = 5 + 3 * k by omega]; exact this
  have n : ∀ j, j < 305 → hI h 110 j = 0 := fun j hj => of_decide_eq_true (List.all_eq_true.mp g7 j (List.mem_range.mpr hj))
  have n0 : (0 : Int32) = nI 0 := rfl
  refine ⟨96, 82, none, ⟨of_decide_eq_true g1, fun q hq => of_decide_eq_true (List.all_eq_true.mp g2 q hq), of_decide_eq_true g3, of_decide_eq_true g4, of_decide_eq_true g5, Or.inl ⟨rfl, rfl⟩⟩, ⟨fun k hk => ?_, ?_, ?_⟩, ⟨fun k hk => ?_, ?_, ?_⟩, ?_, ?_, ?_⟩
  · refine ⟨0, 0, 0, 0, 0, 0, (z k 2 hk (by omega)).trans n0, (z k 3 hk (by omega)).trans n0, (z k 4 hk (by omega)).trans n0, (z k 5 hk (by omega)).trans n0, (z k 6 hk (by omega)).trans n0, (z k 7 hk (by omega)).trans n0, by omega, by omega, by omega, by omega, fun _ => ⟨rfl, rfl, rfl, rfl, rfl⟩, fun q => absurd q (by omega), fun i hi => absurd hi (by omega)⟩
  · exact ⟨0, by omega, (of_decide_eq_true g9).trans n0⟩
  · exact ⟨1, by omega, (of_decide_eq_true g10).trans rfl⟩
  · refine ⟨by rw [z k 2 hk (by omega), n _ (by omega)], by rw [z k 3 hk (by omega), n _ (by omega)], by rw [z k 4 hk (by omega), n _ (by omega)], by rw [z k 5 hk (by omega), n _ (by omega)], by rw [z k 6 hk (by omega), n _ (by omega)], by rw [z k 7 hk (by omega), n _ (by omega)], fun i hi hlt => ?_⟩
    rw [z k 2 hk (by omega)] at hlt
    exact absurd hlt (nI_pos (by omega))
  · rw [of_decide_eq_true g9, n _ (by omega)]
  · rw [of_decide_eq_true g10, of_decide_eq_true g8]
  · exact ⟨0, by omega, (of_decide_eq_true g11).trans n0, (of_decide_eq_true g12).trans n0, fun i hi => absurd hi (by omega)⟩
  · exact Or.inl ⟨of_decide_eq_true g13, of_decide_eq_true g14⟩
  · exact ⟨0, 0, by omega, by omega, (of_decide_eq_true g15).trans n0, (of_decide_eq_true g17).trans n0, (of_decide_eq_true g16).trans n0, fun q hq => absurd hq (by omega)⟩
theorem law_from (hA : AllPr Rel) : law_pure := by
  intro L xs hL
  have hi := init_run
  cases hh : initH with
  | none => rw [hh] at hi; cases hi
  | some h =>
    rw [hh] at hi
    have hok : initOk h = true := Option.some.inj hi
    have hr := init_Rel hok
    unfold initH at hh
    cases h1 : cN 400 100 0 [rz_r (some 0)] (rz_new h00 (.inl 9)) with
    | none => rw [h1] at hh; cases hh
    | some r1 =>
      rw [h1] at hh
      obtain ⟨v1, k1⟩ := r1
      rw [ob_some] at hh
      cases hb : Nat.beq (rz_len k1) 109 with
      | false => rw [hb] at hh; cases hh
      | true =>
        rw [hb] at hh
        have hlen := Nat.eq_of_beq_eq_true hb
        cases h2 : cN 400 100 32 [rz_r (some 109)] (rz_new k1 (.inl 10)) with
        | none => rw [h2] at hh; cases hh
        | some r2 =>
          rw [h2] at hh
          obtain ⟨v2, k2⟩ := r2
          have ek : k2 = h := Option.some.inj hh
          subst ek
          have c1 := cN_cW 400 100 _ _ _ _ h1
          have c2 := cN_cW 400 100 _ _ _ _ h2
          obtain ⟨h3, e3⟩ := law_loop Rel_ok hA hL xs (L + 6) 0 k2 (by omega) (by omega) hr
          refine ⟨100, h3, by omega, ?_⟩
          rw [EL]
          have o1 : okO (rz_new h00 (Sum.inl 9)) (rz_len h00) [9] = true := by decide
          have o2 : okO (rz_new k1 (Sum.inl 10)) (rz_len k1) [10] = true := by
            unfold okO
            rw [hS_new, if_neg (Nat.lt_irrefl _), if_pos rfl]
            rfl
          rw [o1, cd_t, show rz_len h00 = 0 from rfl, c1, bV_some, o2, cd_t, hlen, c2, bV_some]
          exact e3
