/-! the law's text: the model's state -/
/-- an operation as the model notes it, in a stretch that begins at ms -/
def encM (ms : Nat) (o : Nat × Nat) : Nat := if o.1 = 1 then o.2 else if o.1 = 2 then 1048576 + lkN o.2 else if o.1 = 3 then 1048576 * 10 else if o.1 = 5 then 1048576 * 11 + (if 0 < o.2 then ms + o.2 else 0) else if o.1 = 4 then 1048576 * 12 + (if 0 < o.2 then ms + o.2 else 0) else if o.1 = 60 then 1048576 * 7 else if o.1 = 62 then 1048576 * 8 else if o.1 = 61 then 1048576 * 9 else 1048576 * sgN o.1
def FM (ms : Nat) (h0 h : rz_H) : Prop := h.2 = h0.2 ∧ ∀ b i, ¬ (b = 109 ∧ (i = 5 ∨ (7 ≤ i ∧ i ≤ 11))) → ¬ (b = 114 ∧ ms ≤ i) → b ≠ 115 → hI h b i = hI h0 b i
theorem FM.tr {ms : Nat} {h h1 h2 : rz_H} (a : FM ms h h1) (b : FM ms h1 h2) : FM ms h h2 := ⟨b.1.trans a.1, fun c i n1 n2 n3 => (b.2 c i n1 n2 n3).trans (a.2 c i n1 n2 n3)⟩
/-- place, code, what waits, how many are open -/
def MS (h0 h : rz_H) (N : Nat) (t : Nat → Nat) (L ms p : Nat) (c : CC) (n : Nat) (W : List Nat) (op : Nat) : Prop := FM ms h0 h ∧ MT h N t L p ∧ hI h 109 10 = nI (ms + n) ∧ (∀ i, i < n → hI h 114 (ms + i) = nI (encM ms (c i))) ∧ hI h 109 11 = nI W.length ∧ WS h W ∧ hI h 109 9 = nI op
/-- in a fault -/
def ME (ms : Nat) (h0 h : rz_H) (e : Nat × Nat) : Prop := FM ms h0 h ∧ hI h 109 7 = erI e.1 e.2
/-- an operation is noted -/
theorem MS.nt {rb dr : Nat} {jd : Option Nat} {h0 : rz_H} (w0 : Wf rb dr jd h0) {h : rz_H} {N : Nat} {t : Nat → Nat} {L ms p : Nat} {c : CC} {n : Nat} {W : List Nat} {op : Nat} (s : MS h0 h N t L ms p c n W op) (hn : ms + n < 260) (o : Nat × Nat) {k v : Nat} (e : 1048576 * k + v = encM ms o) (d : Nat) : ∃ h', cW (d + 1) 54 [rz_r (some 109), rz_i (nI k), rz_i (nI v)] h = some (rz_i 0, h') ∧ MS h0 h' N t L ms p (psh c n o) (n + 1) W op := by
  have w : Wf rb dr jd h := w0.e s.1.1
  obtain ⟨f, m, e10, cd, e11, ws, e9⟩ := s
  have k54 := K54 w e10 hn k v d
  have oo : ∀ b i, ¬ (b = 114 ∧ i = ms + n) → ¬ (b = 109 ∧ i = 10) → hI (setI (setI h 114 (ms + n) (nI (1048576 * k + v))) 109 10 (nI (ms + n + 1))) b i = hI h b i := fun b i n1 n2 => by rw [hI_setI, if_neg n2, hI_setI, if_neg n1]
  refine ⟨_, k54, ⟨f.1, fun b i n1 n2 n3 => (oo b i (by omega) (by omega)).trans (f.2 b i n1 n2 n3)⟩, m.fm (fun b i hb => oo b i (by omega) (by omega)) ((oo 109 5 (by omega) (by omega)).trans m.2.2.2.1) m.2.2.2.2, by rw [hI_setI, if_pos ⟨rfl, rfl⟩]; rfl, fun i hi => ?_, (oo 109 11 (by omega) (by omega)).trans e11, ws.to W (fun i _ => oo 115 i (by omega) (by omega)), (oo 109 9 (by omega) (by omega)).trans e9⟩
  show _ = nI (encM ms (if i = n then o else c i))
  by_cases ei : i = n
  · subst ei
    rw [if_pos rfl, hI_setI, if_neg (by omega), hI_setI, if_pos ⟨rfl, rfl⟩, e]
  · rw [if_neg ei, oo 114 (ms + i) (by omega) (by omega)]
    exact cd i (by omega)
