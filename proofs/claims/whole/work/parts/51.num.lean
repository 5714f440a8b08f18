/-! numbers: ints that are small, loops -/
theorem in_nI {i n : Nat} (h : i < n) (hn : n < 2 ^ 31) : rz_in (nI i) n = true := by
  have h1 : ¬ nI i < 0 := nI_pos (by omega)
  have h2 : (nI i).toNatClampNeg = i := nI_clamp (by omega)
  unfold rz_in
  rw [decide_eq_false h1, h2]
  simp [Nat.blt_eq, h]
/-- an int that is a number up to n -/
def isN (x : Int32) (n : Nat) : Prop := ∃ j : Nat, j ≤ n ∧ x = nI j
/-- a loop that counts up: what is left of it -/
def itr {σ : Type} (f : Nat → σ → σ) : Nat → Nat → σ → σ
  | _, 0, s => s
  | i, c + 1, s => itr f (i + 1) c (f i s)
theorem itr_succ {σ : Type} (f : Nat → σ → σ) : ∀ (c i : Nat) (s : σ), itr f i (c + 1) s = f (i + c) (itr f i c s)
  | 0, i, s => rfl
  | c + 1, i, s => by
    show itr f (i + 1) (c + 1) (f i s) = _
    rw [itr_succ f c (i + 1) (f i s)]
    show f (i + 1 + c) (itr f (i + 1) c (f i s)) = f (i + (c + 1)) (itr f (i + 1) c (f i s))
    rw [show i + 1 + c = i + (c + 1) by omega]
/-- a loop from i to n with an invariant -/
theorem lp_up {σ ρ : Type} (P : Nat → σ → ρ) (R : σ → ρ) (f : Nat → σ → σ) (I : Nat → σ → Prop) (n : Nat) (hs : ∀ i s, i < n → I i s → P i s = P (i + 1) (f i s) ∧ I (i + 1) (f i s)) (hx : ∀ s, I n s → P n s = R s) : ∀ (c i : Nat) (s : σ), i + c = n → I i s → P i s = R (itr f i c s) ∧ I n (itr f i c s)
  | 0, i, s, hc, h => by
    have e : i = n := by omega
    subst e
    exact ⟨hx s h, h⟩
  | c + 1, i, s, hc, h => by
    obtain ⟨h1, h2⟩ := hs i s (by omega) h
    rw [h1]
    exact lp_up P R f I n hs hx c (i + 1) (f i s) (by omega) h2
/-- the first below n with p -/
def fst (p : Nat → Bool) : Nat → Nat → Option Nat
  | _, 0 => none
  | i, c + 1 => if p i = true then some i else fst p (i + 1) c
def oel {ρ : Type} (Y : Nat → ρ) (N : ρ) (o : Option Nat) : ρ := match o with
  | some j => Y j
  | none => N
theorem lp_fst {ρ : Type} (P : Nat → ρ) (Y : Nat → ρ) (N : ρ) (p : Nat → Bool) (n : Nat) (hs : ∀ i, i < n → P i = if p i = true then Y i else P (i + 1)) (hx : P n = N) : ∀ (c i : Nat), i + c = n → P i = oel Y N (fst p i c)
  | 0, i, hc => by
    have e : i = n := by omega
    subst e
    exact hx
  | c + 1, i, hc => by
    rw [hs i (by omega)]
    unfold fst
    by_cases h : p i = true
    · rw [if_pos h, if_pos h]; rfl
    · rw [if_neg h, if_neg h]
      exact lp_fst P Y N p n hs hx c (i + 1) (by omega)
theorem fst_congr {p q : Nat → Bool} : ∀ (c i : Nat), (∀ j, i ≤ j → j < i + c → p j = q j) → fst p i c = fst q i c
  | 0, _, _ => rfl
  | c + 1, i, h => by
    unfold fst
    rw [h i (Nat.le_refl _) (by omega), fst_congr c (i + 1) (fun j h1 h2 => h j (by omega) (by omega))]
theorem itr_congr {σ : Type} {f g : Nat → σ → σ} : ∀ (c i : Nat) (s : σ), (∀ j t, i ≤ j → j < i + c → f j t = g j t) → itr f i c s = itr g i c s
  | 0, _, _, _ => rfl
  | c + 1, i, s, h => by
    show itr f (i + 1) c (f i s) = itr g (i + 1) c (g i s)
    rw [h i s (Nat.le_refl _) (by omega)]
    exact itr_congr c (i + 1) (g i s) (fun j t h1 h2 => h j t (by omega) (by omega))
