/-! A step uses what comes behind it at one state at most; the run as the limit of its bounded runs. -/
def rz_use (f : (rz_St → Option rz_Res) → Option rz_Res) : Prop := ∀ (k : rz_St → Option rz_Res) (r : rz_Res), f k = some r → (∀ k', f k' = some r) ∨ ∃ s, k s = some r ∧ ∀ k', k' s = some r → f k' = some r
theorem rz_use_k (s : rz_St) : rz_use (fun k => k s) := fun _ _ h => Or.inr ⟨s, h, fun _ h' => h'⟩
theorem rz_use_c (o : Option rz_Res) : rz_use (fun _ => o) := fun _ _ h => Or.inl fun _ => h
theorem rz_use_b {f g : (rz_St → Option rz_Res) → Option rz_Res} (b : Bool) (hf : rz_use f) (hg : rz_use g) : rz_use (fun k => bif b then f k else g k) := by
  cases b
  · exact hg
  · exact hf
theorem rz_use_o {α : Type} {f : α → (rz_St → Option rz_Res) → Option rz_Res} (o : Option α) (hf : ∀ a, rz_use (f a)) : rz_use (fun k => Option.bind o (fun a => f a k)) := by
  cases o with
  | none => exact rz_use_c none
  | some a => exact hf a
theorem rz_use_bV {f : rz_H → (rz_St → Option rz_Res) → Option rz_Res} (o : Option rz_Res) (hf : ∀ h, rz_use (f h)) : rz_use (fun k => bV o (fun h => f h k)) := rz_use_o o (fun q => hf q.2)
theorem rz_use_bI {f : Int32 → rz_H → (rz_St → Option rz_Res) → Option rz_Res} (o : Option rz_Res) (hf : ∀ x h, rz_use (f x h)) : rz_use (fun k => bI o (fun x h => f x h k)) := rz_use_o o (fun q => by
  rcases q with ⟨x | x | x | x, h⟩
  · exact hf x h
  · exact rz_use_c none
  · exact rz_use_c none
  · exact rz_use_c none)
theorem rz_use_bR {f : Option Nat → rz_H → (rz_St → Option rz_Res) → Option rz_Res} (o : Option rz_Res) (hf : ∀ x h, rz_use (f x h)) : rz_use (fun k => bR o (fun x h => f x h k)) := rz_use_o o (fun q => by
  rcases q with ⟨x | x | x | x, h⟩
  · exact rz_use_c none
  · exact hf x h
  · exact rz_use_c none
  · exact rz_use_c none)
theorem rz_use_bL {f : Int64 → rz_H → (rz_St → Option rz_Res) → Option rz_Res} (o : Option rz_Res) (hf : ∀ x h, rz_use (f x h)) : rz_use (fun k => bL o (fun x h => f x h k)) := rz_use_o o (fun q => by
  rcases q with ⟨x | x | x | x, h⟩
  · exact rz_use_c none
  · exact rz_use_c none
  · exact hf x h
  · exact rz_use_c none)
theorem rz_use_back (rk : Nat) (s : rz_St) (q : Option rz_Res) : rz_use (fun k => rz_back k rk s q) := by
  unfold rz_back
  split
  · exact rz_use_bV q (fun h => rz_use_k _)
  · exact rz_use_bI q (fun x h => rz_use_k _)
  · exact rz_use_bI q (fun x h => rz_use_k _)
  · exact rz_use_bR q (fun x h => rz_use_k _)
  · exact rz_use_bL q (fun x h => rz_use_k _)
  · exact rz_use_c none
theorem rz_use_swk (x : Int32) (d : rz_St) : ∀ cs : List (Int32 × rz_St), rz_use (fun k => rz_swk k x d cs)
  | [] => rz_use_k d
  | (_, s) :: l => rz_use_b _ (rz_use_k s) (rz_use_swk x d l)
theorem rz_use_ap (cf : rz_C) (a : rz_Act) : rz_use (fun k => rz_ap cf k a) := by
  rcases a with ⟨b, s1, s2⟩ | ⟨b, r⟩ | ⟨r, g, f⟩ | ⟨m, r, g, f, rk, s⟩ | ⟨x, cs, d⟩ | u
  · cases s2 with
    | none => exact rz_use_b b (rz_use_k s1) (rz_use_c none)
    | some s2 => exact rz_use_b b (rz_use_k s1) (rz_use_k s2)
  · exact rz_use_c _
  · exact rz_use_o r (fun x => rz_use_b _ (rz_use_k _) (rz_use_c none))
  · exact rz_use_o r (fun x => rz_use_b _ (rz_use_back rk s _) (rz_use_c none))
  · exact rz_use_swk x d cs
  · exact rz_use_c none
/-- bounded runs -/
def rz_N (A : rz_St → rz_Act) (cf : rz_C) : Nat → rz_St → Option rz_Res
  | 0, _ => none
  | n + 1, s => rz_ap cf (rz_N A cf n) (A s)
theorem rz_mono {f : (rz_St → Option rz_Res) → Option rz_Res} (hf : rz_use f) {k k' : rz_St → Option rz_Res} (h : ∀ s r, k s = some r → k' s = some r) {r : rz_Res} (e : f k = some r) : f k' = some r := by
  rcases hf k r e with h1 | ⟨s, h1, h2⟩
  · exact h1 k'
  · exact h2 k' (h s r h1)
theorem rz_N_succ (A : rz_St → rz_Act) (cf : rz_C) : ∀ (n : Nat) (s : rz_St) (r : rz_Res), rz_N A cf n s = some r → rz_N A cf (n + 1) s = some r
  | 0, _, _, h => by cases h
  | n + 1, s, r, h => rz_mono (f := fun k => rz_ap cf k (A s)) (rz_use_ap cf (A s)) (rz_N_succ A cf n) h
theorem rz_N_le (A : rz_St → rz_Act) (cf : rz_C) {n m : Nat} (hm : n ≤ m) {s : rz_St} {r : rz_Res} (h : rz_N A cf n s = some r) : rz_N A cf m s = some r := by
  induction hm with
  | refl => exact h
  | step _ ih => exact rz_N_succ A cf _ s r ih
theorem rz_N_det (A : rz_St → rz_Act) (cf : rz_C) {n m : Nat} {s : rz_St} {r q : rz_Res} (h : rz_N A cf n s = some r) (h2 : rz_N A cf m s = some q) : r = q := by
  have a := rz_N_le A cf (Nat.le_max_left n m) h
  have b := rz_N_le A cf (Nat.le_max_right n m) h2
  rw [a] at b
  exact Option.some.inj b
/-- the run -/
noncomputable def rz_W (A : rz_St → rz_Act) (cf : rz_C) (s : rz_St) : Option rz_Res :=
  @dite _ (∃ n r, rz_N A cf n s = some r) (Classical.propDecidable _) (fun h => some (Classical.choose (Classical.choose_spec h))) (fun _ => none)
theorem rz_W_iff (A : rz_St → rz_Act) (cf : rz_C) (s : rz_St) (r : rz_Res) : rz_W A cf s = some r ↔ ∃ n, rz_N A cf n s = some r := by
  unfold rz_W
  by_cases h : ∃ n r, rz_N A cf n s = some r
  · rw [dif_pos h]
    have hs := Classical.choose_spec (Classical.choose_spec h)
    constructor
    · intro e
      rw [← Option.some.inj e]
      exact ⟨_, hs⟩
    · rintro ⟨n, hn⟩
      rw [rz_N_det A cf hs hn]
  · rw [dif_neg h]
    constructor
    · intro e
      cases e
    · rintro ⟨n, hn⟩
      exact absurd ⟨n, r, hn⟩ h
theorem rz_W_eq (A : rz_St → rz_Act) (cf : rz_C) (s : rz_St) : rz_W A cf s = rz_ap cf (rz_W A cf) (A s) := by
  apply Option.ext
  intro r
  constructor
  · intro e
    obtain ⟨n, hn⟩ := (rz_W_iff A cf s r).mp e
    cases n with
    | zero => cases hn
    | succ n => exact rz_mono (f := fun k => rz_ap cf k (A s)) (rz_use_ap cf (A s)) (fun s r h => (rz_W_iff A cf s r).mpr ⟨n, h⟩) hn
  · intro e
    rcases rz_use_ap cf (A s) _ r e with h1 | ⟨s', h1, h2⟩
    · exact (rz_W_iff A cf s r).mpr ⟨1, h1 _⟩
    · obtain ⟨n, hn⟩ := (rz_W_iff A cf s' r).mp h1
      exact (rz_W_iff A cf s r).mpr ⟨n + 1, h2 _ hn⟩
/-- a stretch of steps, up to the cuts -/
def rz_seg (A : rz_St → rz_Act) (cf : rz_C) (k : rz_St → Option rz_Res) (cut : Nat → Bool) : Nat → rz_St → Option rz_Res
  | 0, s => k s
  | n + 1, s => bif cut s.1 then k s else rz_ap cf (rz_seg A cf k cut n) (A s)
theorem rz_seg_W (A : rz_St → rz_Act) (cf : rz_C) (cut : Nat → Bool) : ∀ (n : Nat), rz_seg A cf (rz_W A cf) cut n = rz_W A cf
  | 0 => rfl
  | n + 1 => by
    funext s
    unfold rz_seg
    rw [rz_seg_W A cf cut n, ← rz_W_eq]
    cases cut s.1 <;> rfl
theorem rz_walk (A : rz_St → rz_Act) (cf : rz_C) (cut : Nat → Bool) (n : Nat) (s : rz_St) : rz_W A cf s = rz_ap cf (rz_seg A cf (rz_W A cf) cut n) (A s) := by
  rw [rz_seg_W, ← rz_W_eq]
