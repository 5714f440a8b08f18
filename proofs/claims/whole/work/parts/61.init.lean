/-! both objects are made: by reckoning -/
def cN (N : Nat) : Nat → rz_C
  | 0 => fun _ _ _ => none
  | d + 1 => fun m args h => bif rz_okA m args then rz_N (rz_act mT (mK m) none (mF m)) (cN N d) N (0, mB m, args.map some ++ List.replicate (mL m - args.length) none, [], h) else none
theorem rz_back_none (k : rz_St → Option rz_Res) (rk : Nat) (s : rz_St) : rz_back k rk s none = none := by
  unfold rz_back
  split <;> rfl
theorem rz_ap_cf {cf cf2 : rz_C} (hc : ∀ m as h r, cf m as h = some r → cf2 m as h = some r) {k : rz_St → Option rz_Res} {a : rz_Act} {r : rz_Res} (e : rz_ap cf k a = some r) : rz_ap cf2 k a = some r := by
  rcases a with a | a | a | ⟨m, o, g, f, rk, s⟩ | a | a
  · exact e
  · exact e
  · exact e
  · cases o with
    | none => exact e
    | some x =>
      obtain ⟨g1, e⟩ := rz_bn e
      cases hq : cf m (f x) s.2.2.2.2 with
      | none =>
        rw [hq, rz_back_none] at e
        cases e
      | some q =>
        rw [hq] at e
        show (bif g x then rz_back k rk s (cf2 m (f x) s.2.2.2.2) else none) = some r
        rw [g1, hc _ _ _ _ hq]
        exact e
  · exact e
  · exact e
theorem rz_N_cf {A : rz_St → rz_Act} {cf cf2 : rz_C} (hc : ∀ m as h r, cf m as h = some r → cf2 m as h = some r) : ∀ (n : Nat) (s : rz_St) (r : rz_Res), rz_N A cf n s = some r → rz_N A cf2 n s = some r
  | 0, _, _, h => by cases h
  | n + 1, s, r, h => rz_ap_cf hc (rz_mono (f := fun k => rz_ap cf k (A s)) (rz_use_ap cf (A s)) (rz_N_cf hc n) h)
theorem cN_cW (N : Nat) : ∀ (d m : Nat) (as : List rz_V) (h : rz_H) (r : rz_Res), cN N d m as h = some r → cW d m as h = some r
  | 0, _, _, _, _, e => by cases e
  | d + 1, m, as, h, r, e => by
    obtain ⟨g, e⟩ := rz_bn e
    show (bif rz_okA m as then _ else none) = some r
    rw [g]
    exact (rz_W_iff _ _ _ r).mpr ⟨N, rz_N_cf (cN_cW N d) N _ r e⟩
def initH : Option rz_H := Option.bind (cN 400 100 0 [rz_r (some 0)] (rz_new h00 (.inl 9))) (fun r => bif Nat.beq (rz_len r.2) 109 then (cN 400 100 32 [rz_r (some 109)] (rz_new r.2 (.inl 10))).map (fun q => q.2) else none)
/-- what is asked of the first heap -/
def initOk (h : rz_H) : Bool := decide (h.2.2 = SH) && (RF.all (fun q => decide (hR h q.1 q.2.1 = some q.2.2)) && (decide (hR h 95 3 = some 96) && (decide (hR h 81 5 = some 82) && (decide (hR h 95 4 = none) && ((List.range 8).all (fun k => (List.range 8).all (fun j => decide (hI h (5 + 3 * k) j = 0))) && ((List.range 305).all (fun j => decide (hI h 110 j = 0)) && (decide (hI h 110 305 = 1) && (decide (hI h 3 1 = 0) && (decide (hI h 3 2 = 1) && (decide (hI h 1 1 = 0) && (decide (hI h 109 4 = 0) && (decide (hI h 0 9 = 0) && (decide (hI h 109 39 = 0) && (decide (hI h 96 5 = 0) && (decide (hI h 96 6 = 0) && decide (hI h 109 13 = 0))))))))))))))))
theorem init_run : initH.map initOk = some true := by decide +kernel
