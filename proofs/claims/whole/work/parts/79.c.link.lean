/-! drums that are linked -/
def clo (B : Nat → Nat) (X : Nat → Prop) : Prop := ∀ a b, a < 8 → b < 8 → X a → ¬ B a &&& B b = 0 → X b
theorem and_ne (a b : Nat) : ¬ a &&& b = 0 ↔ ∃ i, a.testBit i = true ∧ b.testBit i = true := by
  constructor
  · intro h
    refine Classical.byContradiction fun hn => h (Nat.eq_of_testBit_eq fun i => ?_)
    rw [Nat.testBit_and, Nat.zero_testBit]
    cases ha : a.testBit i with
    | false => rfl
    | true =>
      cases hb : b.testBit i with
      | false => rfl
      | true => exact absurd ⟨i, ha, hb⟩ hn
  · rintro ⟨i, h1, h2⟩ e
    have := congrArg (fun z => Nat.testBit z i) e
    simp [Nat.testBit_and, h1, h2] at this
theorem tb_or (s j b : Nat) : (s ||| 2 ^ j).testBit b = true ↔ s.testBit b = true ∨ b = j := by
  rw [Nat.testBit_or, Nat.testBit_two_pow]
  constructor
  · intro h
    rcases Bool.or_eq_true _ _ |>.mp h with h | h
    · exact Or.inl h
    · exact Or.inr (of_decide_eq_true h).symm
  · rintro (h | h)
    · rw [h]; rfl
    · subst h; simp
theorem cnt_mono {p q : Nat → Bool} (hpq : ∀ i, p i = true → q i = true) : ∀ n, cnt p n ≤ cnt q n
  | 0 => Nat.le_refl _
  | n + 1 => by
    have ih := cnt_mono hpq n
    rw [cnt_s, cnt_s]
    by_cases hp : p n = true
    · rw [if_pos hp, if_pos (hpq n hp)]; omega
    · rw [if_neg hp]
      split <;> omega
theorem cnt_str {p q : Nat → Bool} (hpq : ∀ i, p i = true → q i = true) {b : Nat} (hp : p b = false) (hq : q b = true) : ∀ n, b < n → cnt p n + 1 ≤ cnt q n
  | 0, h => absurd h (by omega)
  | n + 1, h => by
    rw [cnt_s, cnt_s]
    by_cases e : b = n
    · subst e
      have := cnt_mono hpq b
      rw [if_neg (by rw [hp]; simp), if_pos hq]; omega
    · have ih := cnt_str hpq hp hq n (by omega)
      by_cases hp2 : p n = true
      · rw [if_pos hp2, if_pos (hpq n hp2)]; omega
      · rw [if_neg hp2]
        split <;> omega
def lsf (B : Nat → Nat) (j : Nat) (s : Nat × Nat) : Nat × Nat := if B j &&& s.2 = 0 then s else (s.1 ||| 2 ^ j, s.2 ||| B j)
def lsw (B : Nat → Nat) (s : Nat × Nat) : Nat × Nat := itr (lsf B) 0 8 s
def lgr (B : Nat → Nat) (k : Nat) : Nat := (itr (fun _ s => lsw B s) 0 8 (2 ^ k, B k)).1
/-- what holds on the way -/
def lin (B : Nat → Nat) (k : Nat) (s : Nat × Nat) : Prop := (∀ i, s.2.testBit i = true ↔ ∃ j, j < 8 ∧ s.1.testBit j = true ∧ (B j).testBit i = true) ∧ (∀ j, s.1.testBit j = true → j < 8) ∧ s.1.testBit k = true ∧ ∀ X : Nat → Prop, clo B X → X k → ∀ j, s.1.testBit j = true → X j
theorem lin_0 (B : Nat → Nat) {k : Nat} (hk : k < 8) : lin B k (2 ^ k, B k) := by
  have t : ∀ j, (2 ^ k).testBit j = true ↔ j = k := fun j => by
    rw [Nat.testBit_two_pow]
    constructor
    · intro h; exact (of_decide_eq_true h).symm
    · intro h; exact decide_eq_true h.symm
  refine ⟨fun i => ⟨fun h => ⟨k, hk, (t k).mpr rfl, h⟩, ?_⟩, fun j hj => ?_, (t k).mpr rfl, fun X _ hX j hj => ?_⟩
  · rintro ⟨j, h1, h2, h3⟩
    have := (t j).mp h2
    subst this
    exact h3
  · have := (t j).mp hj
    omega
  · have := (t j).mp hj
    subst this
    exact hX
theorem lin_f {B : Nat → Nat} {k j : Nat} (hj : j < 8) {s : Nat × Nat} (I : lin B k s) : lin B k (lsf B j s) := by
  unfold lsf
  by_cases c : B j &&& s.2 = 0
  · rw [if_pos c]; exact I
  · rw [if_neg c]
    obtain ⟨a1, a2, a3, a4⟩ := I
    refine ⟨fun i => ?_, fun b hb => ?_, (tb_or _ _ _).mpr (Or.inl a3), fun X hX hk b hb => ?_⟩
    · rw [Nat.testBit_or]
      constructor
      · intro h
        rcases (Bool.or_eq_true _ _).mp h with h | h
        · obtain ⟨b, b1, b2, b3⟩ := (a1 i).mp h
          exact ⟨b, b1, (tb_or _ _ _).mpr (Or.inl b2), b3⟩
        · exact ⟨j, hj, (tb_or _ _ _).mpr (Or.inr rfl), h⟩
      · rintro ⟨b, b1, b2, b3⟩
        rcases (tb_or _ _ _).mp b2 with b2 | b2
        · rw [(a1 i).mpr ⟨b, b1, b2, b3⟩]; rfl
        · subst b2
          rw [b3, Bool.or_true]
    · rcases (tb_or _ _ _).mp hb with hb | hb
      · exact a2 b hb
      · omega
    · rcases (tb_or _ _ _).mp hb with hb | hb
      · exact a4 X hX hk b hb
      · subst hb
        obtain ⟨i, i1, i2⟩ := (and_ne _ _).mp c
        obtain ⟨a, b1, b2, b3⟩ := (a1 i).mp i2
        exact hX a b b1 hj (a4 X hX hk a b2) ((and_ne _ _).mpr ⟨i, b3, i1⟩)
theorem itr_in {σ : Type} {f : Nat → σ → σ} (I : σ → Prop) : ∀ (c i : Nat) (s : σ), (∀ j t, i ≤ j → j < i + c → I t → I (f j t)) → I s → I (itr f i c s)
  | 0, _, _, _, h => h
  | c + 1, i, s, hs, h => itr_in I c (i + 1) (f i s) (fun j t h1 h2 => hs j t (by omega) (by omega)) (hs i s (by omega) (by omega) h)
theorem lin_w {B : Nat → Nat} {k : Nat} {s : Nat × Nat} (I : lin B k s) : lin B k (lsw B s) := itr_in (lin B k) 8 0 s (fun _ _ _ h => lin_f (by omega)) I
theorem lsf_mono (B : Nat → Nat) (j : Nat) (s : Nat × Nat) : (∀ i, s.1.testBit i = true → (lsf B j s).1.testBit i = true) ∧ ∀ i, s.2.testBit i = true → (lsf B j s).2.testBit i = true := by
  unfold lsf
  split
  · exact ⟨fun _ h => h, fun _ h => h⟩
  · refine ⟨fun i h => (tb_or _ _ _).mpr (Or.inl h), fun i h => ?_⟩
    show (s.2 ||| B j).testBit i = true
    rw [Nat.testBit_or, h]; rfl
theorem lsw_mono (B : Nat → Nat) : ∀ (c i : Nat) (s : Nat × Nat), (∀ b, s.1.testBit b = true → (itr (lsf B) i c s).1.testBit b = true) ∧ ∀ b, s.2.testBit b = true → (itr (lsf B) i c s).2.testBit b = true
  | 0, _, _ => ⟨fun _ h => h, fun _ h => h⟩
  | c + 1, i, s => by
    obtain ⟨m1, m2⟩ := lsw_mono B c (i + 1) (lsf B i s)
    obtain ⟨n1, n2⟩ := lsf_mono B i s
    exact ⟨fun b h => m1 b (n1 b h), fun b h => m2 b (n2 b h)⟩
theorem lsw_gets (B : Nat → Nat) {b : Nat} : ∀ (c i : Nat) (s : Nat × Nat), i ≤ b → b < i + c → ¬ B b &&& s.2 = 0 → (itr (lsf B) i c s).1.testBit b = true
  | 0, i, s, h1, h2, _ => absurd h2 (by omega)
  | c + 1, i, s, h1, h2, h => by
    by_cases e : b = i
    · subst e
      refine (lsw_mono B c (b + 1) (lsf B b s)).1 b ?_
      unfold lsf
      rw [if_neg h]
      exact (tb_or _ _ _).mpr (Or.inr rfl)
    · refine lsw_gets B c (i + 1) (lsf B i s) (by omega) (by omega) ?_
      obtain ⟨x, x1, x2⟩ := (and_ne _ _).mp h
      exact (and_ne _ _).mpr ⟨x, x1, (lsf_mono B i s).2 x x2⟩
def ldn (B : Nat → Nat) (s : Nat × Nat) : Prop := ∀ b, b < 8 → ¬ B b &&& s.2 = 0 → s.1.testBit b = true
theorem ldn_f {B : Nat → Nat} {k : Nat} {s : Nat × Nat} (I : lin B k s) (D : ldn B s) {j : Nat} (hj : j < 8) : lsf B j s = s := by
  unfold lsf
  by_cases c : B j &&& s.2 = 0
  · rw [if_pos c]
  · rw [if_neg c]
    have hb := D j hj c
    have e1 : s.1 ||| 2 ^ j = s.1 := Nat.eq_of_testBit_eq fun i => by
      rw [Bool.eq_iff_iff, tb_or]
      constructor
      · rintro (h | h)
        · exact h
        · subst h; exact hb
      · exact Or.inl
    have e2 : s.2 ||| B j = s.2 := Nat.eq_of_testBit_eq fun i => by
      rw [Nat.testBit_or]
      cases hs : s.2.testBit i with
      | true => rfl
      | false =>
        cases hB : (B j).testBit i with
        | false => rfl
        | true => rw [(I.1 i).mpr ⟨j, hj, hb, hB⟩] at hs; exact absurd hs (by simp)
    rw [e1, e2]
theorem ldn_w {B : Nat → Nat} {k : Nat} {s : Nat × Nat} (I : lin B k s) (D : ldn B s) : ∀ c i, i + c ≤ 8 → itr (lsf B) i c s = s
  | 0, _, _ => rfl
  | c + 1, i, h => by
    show itr (lsf B) (i + 1) c (lsf B i s) = s
    rw [ldn_f I D (by omega)]
    exact ldn_w I D c (i + 1) (by omega)
theorem ldn_r (B : Nat → Nat) {k : Nat} (hk : k < 8) : ∀ r, lin B k (itr (fun _ s => lsw B s) 0 r (2 ^ k, B k)) ∧ (ldn B (itr (fun _ s => lsw B s) 0 r (2 ^ k, B k)) ∨ r + 1 ≤ cnt (fun j => (itr (fun _ s => lsw B s) 0 r (2 ^ k, B k)).1.testBit j) 8)
  | 0 => by
    refine ⟨lin_0 B hk, Or.inr ?_⟩
    have := cnt_str (p := fun _ => false) (q := fun j => (2 ^ k).testBit j) (fun _ h => absurd h (by simp)) (b := k) rfl (lin_0 B hk).2.2.1 8 hk
    show 0 + 1 ≤ cnt (fun j => (2 ^ k).testBit j) 8
    omega
  | r + 1 => by
    obtain ⟨I, h⟩ := ldn_r B hk r
    rw [itr_succ]
    generalize itr (fun _ s => lsw B s) 0 r (2 ^ k, B k) = s at I h
    refine ⟨lin_w I, ?_⟩
    by_cases D : ldn B s
    · left
      have : lsw B s = s := ldn_w I D 8 0 (by omega)
      rw [this]; exact D
    · right
      have hb : ∃ b, b < 8 ∧ ¬ B b &&& s.2 = 0 ∧ s.1.testBit b = false := by
        refine Classical.byContradiction fun hn => D fun b hb hB => ?_
        cases e : s.1.testBit b with
        | true => rfl
        | false => exact absurd ⟨b, hb, hB, e⟩ hn
      obtain ⟨b, b1, b2, b3⟩ := hb
      have hc := h.resolve_left D
      have := cnt_str (p := fun j => s.1.testBit j) (q := fun j => (lsw B s).1.testBit j) (fun i hi => (lsw_mono B 8 0 s).1 i hi) b3 (lsw_gets B 8 0 s (by omega) (by omega) b2) 8 b1
      omega
theorem lgr_ok (B : Nat → Nat) {k : Nat} (hk : k < 8) : (∀ j, (lgr B k).testBit j = true → j < 8) ∧ (lgr B k).testBit k = true ∧ clo B (fun j => (lgr B k).testBit j = true) ∧ ∀ X : Nat → Prop, clo B X → X k → ∀ j, (lgr B k).testBit j = true → X j := by
  obtain ⟨I, h⟩ := ldn_r B hk 8
  unfold lgr
  generalize itr (fun _ s => lsw B s) 0 8 (2 ^ k, B k) = s at I h
  have D : ldn B s := h.resolve_right (by have := cnt_le (fun j => s.1.testBit j) 8; omega)
  refine ⟨I.2.1, I.2.2.1, fun a b ha hb hx hB => D b hb ?_, I.2.2.2⟩
  obtain ⟨i, i1, i2⟩ := (and_ne _ _).mp hB
  exact (and_ne _ _).mpr ⟨i, i2, (I.1 i).mpr ⟨a, ha, hx, i1⟩⟩
theorem set_eq {G M : Nat} (h1 : ∀ j, G.testBit j = true → M.testBit j = true) (h2 : ∀ j, M.testBit j = true → G.testBit j = true) : G = M := Nat.eq_of_testBit_eq fun i => by
  rw [Bool.eq_iff_iff]
  exact ⟨h1 i, h2 i⟩
theorem set_lt {G : Nat} (h : ∀ j, G.testBit j = true → j < 8) : G < 256 := by
  refine Nat.lt_pow_two_of_testBit (n := 8) G fun i hi => ?_
  cases e : G.testBit i with
  | false => rfl
  | true => exact absurd (h i e) (by omega)
/-- what a sweep of the model's makes -/
def mif (B : Nat → Nat) (bf a b s : Nat) : Nat := if bf.testBit a = true ∧ ¬ B a &&& B b = 0 then s ||| 2 ^ b else s
def mof (B : Nat → Nat) (bf a s : Nat) : Nat := itr (mif B bf a) 0 8 s
def msw (B : Nat → Nat) (bf : Nat) : Nat := itr (mof B bf) 0 8 bf
theorem mif_t (B : Nat → Nat) (bf a : Nat) : ∀ n s b, (itr (mif B bf a) 0 n s).testBit b = true ↔ s.testBit b = true ∨ (b < n ∧ bf.testBit a = true ∧ ¬ B a &&& B b = 0)
  | 0, s, b => by
    show s.testBit b = true ↔ _
    constructor
    · exact Or.inl
    · rintro (h | h)
      · exact h
      · exact absurd h.1 (by omega)
  | n + 1, s, b => by
    rw [itr_succ, Nat.zero_add]
    have ih := mif_t B bf a n s b
    generalize itr (mif B bf a) 0 n s = u at ih
    unfold mif
    by_cases c : bf.testBit a = true ∧ ¬ B a &&& B n = 0
    · rw [if_pos c, tb_or, ih]
      constructor
      · rintro ((h | h) | h)
        · exact Or.inl h
        · exact Or.inr ⟨by omega, h.2⟩
        · subst h; exact Or.inr ⟨by omega, c⟩
      · rintro (h | ⟨h1, h2⟩)
        · exact Or.inl (Or.inl h)
        · by_cases e : b = n
          · exact Or.inr e
          · exact Or.inl (Or.inr ⟨by omega, h2⟩)
    · rw [if_neg c, ih]
      constructor
      · rintro (h | h)
        · exact Or.inl h
        · exact Or.inr ⟨by omega, h.2⟩
      · rintro (h | ⟨h1, h2⟩)
        · exact Or.inl h
        · by_cases e : b = n
          · subst e; exact absurd h2 c
          · exact Or.inr ⟨by omega, h2⟩
theorem mof_t (B : Nat → Nat) (bf : Nat) : ∀ n s b, (itr (mof B bf) 0 n s).testBit b = true ↔ s.testBit b = true ∨ (b < 8 ∧ ∃ a, a < n ∧ bf.testBit a = true ∧ ¬ B a &&& B b = 0)
  | 0, s, b => by
    show s.testBit b = true ↔ _
    constructor
    · exact Or.inl
    · rintro (h | ⟨_, a, h, _⟩)
      · exact h
      · exact absurd h (by omega)
  | n + 1, s, b => by
    rw [itr_succ, Nat.zero_add]
    unfold mof
    rw [mif_t, show (itr (fun a s => itr (mif B bf a) 0 8 s) 0 n s) = itr (mof B bf) 0 n s from rfl, mof_t B bf n s b]
    constructor
    · rintro ((h | ⟨h1, a, h2, h3⟩) | ⟨h1, h2⟩)
      · exact Or.inl h
      · exact Or.inr ⟨h1, a, by omega, h3⟩
      · exact Or.inr ⟨h1, n, by omega, h2⟩
    · rintro (h | ⟨h1, a, h2, h3⟩)
      · exact Or.inl (Or.inl h)
      · by_cases e : a = n
        · subst e; exact Or.inr ⟨h1, h3⟩
        · exact Or.inl (Or.inr ⟨h1, a, by omega, h3⟩)
def mnv (B : Nat → Nat) (k M : Nat) : Prop := (∀ j, M.testBit j = true → j < 8) ∧ M.testBit k = true ∧ ∀ X : Nat → Prop, clo B X → X k → ∀ j, M.testBit j = true → X j
theorem mnv_w {B : Nat → Nat} {k M : Nat} (I : mnv B k M) : mnv B k (msw B M) := by
  obtain ⟨a1, a2, a3⟩ := I
  refine ⟨fun j hj => ?_, (mof_t B M 8 M k).mpr (Or.inl a2), fun X hX hk j hj => ?_⟩
  · rcases (mof_t B M 8 M j).mp hj with h | h
    · exact a1 j h
    · exact h.1
  · rcases (mof_t B M 8 M j).mp hj with h | ⟨h1, a, h2, h3, h4⟩
    · exact a3 X hX hk j h
    · exact hX a j h2 h1 (a3 X hX hk a h3) h4
theorem mnv_d {B : Nat → Nat} {k M : Nat} (hk : k < 8) (I : mnv B k M) (e : msw B M = M) : M = lgr B k := by
  obtain ⟨a1, a2, a3⟩ := I
  obtain ⟨b1, b2, b3, b4⟩ := lgr_ok B hk
  refine set_eq (fun j hj => a3 (fun j => (lgr B k).testBit j = true) b3 b2 j hj) (fun j hj => b4 (fun j => M.testBit j = true) (fun a b ha hb hx hB => ?_) a2 j hj)
  show M.testBit b = true
  rw [← e]
  exact (mof_t B M 8 M b).mpr (Or.inr ⟨hb, a, ha, hx, hB⟩)
/-- each drum's pictures -/
def BP (h : rz_H) (j b : Nat) : Prop := b < 65536 ∧ ((tdk h j = true ∧ (∀ d, cW (d + 3) 260 [rz_r (some (5 + 3 * j))] h = some (rz_i (nI b), h)) ∧ (∀ d, cW (d + 3) 105 [rz_r (some 109), rz_i (nI j)] h = some (rz_i (nI b), h)) ∧ ∀ d, cW (d + 2) 181 [rz_r (some 3), rz_i (nI j)] h = some (rz_r (some (5 + 3 * j)), h)) ∨ (tdk h j = false ∧ b = 0))
theorem mkB {rb dr : Nat} {jd : Option Nat} {h : rz_H} (w : Wf rb dr jd h) (r1 : LaOk h 3) (r2 : LaRel h 3 110) : ∃ B : Nat → Nat, ∀ j, j < 8 → BP h j (B j) := by
  refine Classical.axiomOfChoice (r := fun j b => j < 8 → BP h j b) fun j => ?_
  by_cases hj : j < 8
  · rcases tld r1 r2 (nI j) with ⟨k, F, g, e, q⟩ | n
    · have : j = k := (nI_eq (by omega) (by have := q.1; omega)).mp e
      subst this
      refine ⟨pst F g (fun _ => true) nI, fun _ => ⟨pst_lt q _ _, Or.inl ⟨?_, Q260 w q, Q105 w q, Q181 w q⟩⟩⟩
      unfold tdk
      rw [q.2.2.2.2.2.1, decide_eq_false (nI_ne0 q.2.1 (by have := q.2.2.1; omega))]; rfl
    · refine ⟨0, fun _ => ⟨by omega, Or.inr ⟨?_, rfl⟩⟩⟩
      unfold tdk
      rw [(n j hj rfl).2]; rfl
  · exact ⟨0, fun h => absurd h hj⟩
theorem and0 {a b : Nat} (hb : b < 65536) : nI a &&& nI b = 0 ↔ a &&& b = 0 := by
  have := Nat.and_le_right (n := a) (m := b)
  rw [nI_and]
  exact nI_eq (b := 0) (by omega) (by omega)
theorem G189 {rb dr : Nat} {jd : Option Nat} {h : rz_H} (w : Wf rb dr jd h) (r1 : LaOk h 3) (r2 : LaRel h 3 110) {B : Nat → Nat} (hB : ∀ j, j < 8 → BP h j (B j)) {k : Nat} (hk : k < 8) (ht : tdk h k = true) (d : Nat) : cW (d + 4) 189 [rz_r (some 3), rz_i (nI k)] h = some (rz_i (nI (lgr B k)), h) := by
  have hL : isL 3 := Or.inl rfl
  obtain ⟨b0, hb⟩ := hB k hk
  rcases hb with ⟨-, b1, b2, b3⟩ | ⟨b1, -⟩
  · rw [E189]
    have inn : ∀ r s (jk : Option rz_V × Option rz_V × Option rz_V), s.1 < 65536 ∧ s.2 < 65536 → (∃ j2 : Option rz_V × Option rz_V × Option rz_V, rW (d + 3) 189 (24, (0, 0), [some (rz_r (some 3)), jk.1, jk.2.1, some (rz_i (nI s.1)), some (rz_i (nI s.2)), some (rz_i (nI r)), some (rz_i (nI 0)), jk.2.2], [], h) = rW (d + 3) 189 (24, (0, 0), [some (rz_r (some 3)), j2.1, j2.2.1, some (rz_i (nI (lsw B s).1)), some (rz_i (nI (lsw B s).2)), some (rz_i (nI r)), some (rz_i (nI 8)), j2.2.2], [], h)) ∧ ((lsw B s).1 < 65536 ∧ (lsw B s).2 < 65536) := fun r s jk hs => by
      refine lp_ji (fun j (s : Nat × Nat) (jk : Option rz_V × Option rz_V × Option rz_V) => rW (d + 3) 189 (24, (0, 0), [some (rz_r (some 3)), jk.1, jk.2.1, some (rz_i (nI s.1)), some (rz_i (nI s.2)), some (rz_i (nI r)), some (rz_i (nI j)), jk.2.2], [], h)) (lsf B) (fun _ s => s.1 < 65536 ∧ s.2 < 65536) 8 (fun j s jk hj hs => ?_) 8 0 s jk (by omega) hs
      obtain ⟨k1, k2⟩ := WLk w hL hj
      have e5 : 3 + 2 + 3 * j = 5 + 3 * j := by omega
      have l142 := L142 w hL r1 r2 hj
      rw [e5] at k1 k2 l142
      obtain ⟨c0, hc⟩ := hB j hj
      refine ⟨?_, ?_⟩
      · rcases hc with ⟨c1, c2, -, -⟩ | ⟨c1, c2⟩
        · refine ⟨(none, none, some (rz_i (nI (B j)))), ?_⟩
          have ca := and0 (a := B j) hs.2
          rw [E189_24]
          unfold lsf
          by_cases c : B j &&& s.2 = 0 <;> simp (disch := omega) only [bI_some, bV_some, bR_some, bL_some, ob_some, cd_t, cd_f, cd_d, okO_setI, okA_setI, okL_setI, aLen_setI, hR_setI, hI_setI, Bool.true_and, Bool.and_true, Bool.and_self, Option.isNone_some, Option.isSome_some, Option.isNone_none, Option.isSome_none, okO_chI, okA_chI, okL_chI, aLen_chI, hR_chI, ↓reduceIte, not_true_eq_false, not_false_eq_true, eq_self, c10, Nat.zero_add, nI_add, litA, litB, litM, nI_mul, nI_leI, nI_ltI, nI_eq, litLe, litLe2, litLt, litLt2, litEq, litEq2, in_nI, lit_in, nI_clamp, lit_cl, if_pos, if_neg, WLd w hL, k1, WD w k2, l142, c1, bI1, c2, ca, c, bit_nI, nI_or]
        · refine ⟨(none, none, some (rz_i 0)), ?_⟩
          rw [E189_24]
          unfold lsf
          have z : (0 : Int32) &&& nI s.2 = 0 := Int32.zero_and
          have z2 : 0 &&& s.2 = 0 := Nat.zero_and _
          simp (disch := omega) only [bI_some, bV_some, bR_some, bL_some, ob_some, cd_t, cd_f, cd_d, okO_setI, okA_setI, okL_setI, aLen_setI, hR_setI, hI_setI, Bool.true_and, Bool.and_true, Bool.and_self, Option.isNone_some, Option.isSome_some, Option.isNone_none, Option.isSome_none, okO_chI, okA_chI, okL_chI, aLen_chI, hR_chI, ↓reduceIte, not_true_eq_false, not_false_eq_true, eq_self, c10, Nat.zero_add, nI_add, litA, litB, litM, nI_mul, nI_leI, nI_ltI, nI_eq, litLe, litLe2, litLt, litLt2, litEq, litEq2, in_nI, lit_in, nI_clamp, lit_cl, if_pos, if_neg, WLd w hL, k1, WD w k2, l142, c1, bI1, z, Bool.false_eq_true]
          rw [c2, if_pos z2]
      · unfold lsf
        split
        · exact hs
        · exact ⟨or_lt hs.1 (pw_lt (by omega)), or_lt hs.2 c0⟩
    obtain ⟨⟨j, e⟩, -⟩ := lp_ji (fun r (s : Nat × Nat) (jk : Option rz_V × Option rz_V × Option rz_V × Option rz_V) => rW (d + 3) 189 (17, (0, 0), [some (rz_r (some 3)), jk.1, jk.2.1, some (rz_i (nI s.1)), some (rz_i (nI s.2)), some (rz_i (nI r)), jk.2.2.1, jk.2.2.2], [], h)) (fun _ s => lsw B s) (fun _ s => s.1 < 65536 ∧ s.2 < 65536) 8 (fun r s jk hr hs => by
      obtain ⟨⟨j2, e2⟩, i2⟩ := inn r s (none, none, none) hs
      refine ⟨⟨(none, none, some (rz_i (nI 8)), none), ?_⟩, i2⟩
      show rW (d + 3) 189 (17, (0, 0), [some (rz_r (some 3)), jk.1, jk.2.1, some (rz_i (nI s.1)), some (rz_i (nI s.2)), some (rz_i (nI r)), jk.2.2.1, jk.2.2.2], [], h) = _
      rw [E189_17]
      simp (disch := omega) only [bI_some, bV_some, bR_some, bL_some, ob_some, cd_t, cd_f, cd_d, okO_setI, okA_setI, okL_setI, aLen_setI, hR_setI, hI_setI, Bool.true_and, Bool.and_true, Bool.and_self, Option.isNone_some, Option.isSome_some, Option.isNone_none, Option.isSome_none, okO_chI, okA_chI, okL_chI, aLen_chI, hR_chI, ↓reduceIte, not_true_eq_false, not_false_eq_true, eq_self, c10, Nat.zero_add, nI_add, litA, litB, litM, nI_mul, nI_leI, nI_ltI, nI_eq, litLe, litLe2, litLt, litLt2, litEq, litEq2, in_nI, lit_in, nI_clamp, lit_cl, if_pos, if_neg, WLd w hL]
      refine Eq.trans e2 ?_
      rw [E189_24]
      simp (disch := omega) only [bI_some, bV_some, bR_some, bL_some, ob_some, cd_t, cd_f, cd_d, okO_setI, okA_setI, okL_setI, aLen_setI, hR_setI, hI_setI, Bool.true_and, Bool.and_true, Bool.and_self, Option.isNone_some, Option.isSome_some, Option.isNone_none, Option.isSome_none, okO_chI, okA_chI, okL_chI, aLen_chI, hR_chI, ↓reduceIte, not_true_eq_false, not_false_eq_true, eq_self, c10, Nat.zero_add, nI_add, litA, litB, litM, nI_mul, nI_leI, nI_ltI, nI_eq, litLe, litLe2, litLt, litLt2, litEq, litEq2, in_nI, lit_in, nI_clamp, lit_cl, if_pos, if_neg, WLd w hL]) 8 0 (2 ^ k, B k) (some (rz_i (nI k)), some (rz_r (some (5 + 3 * k))), none, none) (by omega) ⟨pw_lt (by omega), b0⟩
    simp (disch := omega) only [bI_some, bV_some, bR_some, bL_some, ob_some, cd_t, cd_f, cd_d, okO_setI, okA_setI, okL_setI, aLen_setI, hR_setI, hI_setI, Bool.true_and, Bool.and_true, Bool.and_self, Option.isNone_some, Option.isSome_some, Option.isNone_none, Option.isSome_none, okO_chI, okA_chI, okL_chI, aLen_chI, hR_chI, ↓reduceIte, not_true_eq_false, not_false_eq_true, eq_self, c10, Nat.zero_add, nI_add, litA, litB, litM, nI_mul, nI_leI, nI_ltI, nI_eq, litLe, litLe2, litLt, litLt2, litEq, litEq2, in_nI, lit_in, nI_clamp, lit_cl, if_pos, if_neg, WLd w hL, b3, b1, bit_nI]
    refine Eq.trans e ?_
    rw [E189_17]
    simp (disch := omega) only [bI_some, bV_some, bR_some, bL_some, ob_some, cd_t, cd_f, cd_d, okO_setI, okA_setI, okL_setI, aLen_setI, hR_setI, hI_setI, Bool.true_and, Bool.and_true, Bool.and_self, Option.isNone_some, Option.isSome_some, Option.isNone_none, Option.isSome_none, okO_chI, okA_chI, okL_chI, aLen_chI, hR_chI, ↓reduceIte, not_true_eq_false, not_false_eq_true, eq_self, c10, Nat.zero_add, nI_add, litA, litB, litM, nI_mul, nI_leI, nI_ltI, nI_eq, litLe, litLe2, litLt, litLt2, litEq, litEq2, in_nI, lit_in, nI_clamp, lit_cl, if_pos, if_neg, WLd w hL]
    rfl
  · rw [b1] at ht; exact absurd ht (by simp)
theorem G121s {rb dr : Nat} {jd : Option Nat} {h : rz_H} (w : Wf rb dr jd h) (r1 : LaOk h 3) (r2 : LaRel h 3 110) {B : Nat → Nat} (hB : ∀ j, j < 8 → BP h j (B j)) {M : Nat} (h8 : ∀ j, M.testBit j = true → j < 8) (ht : ∀ j, M.testBit j = true → tdk h j = true) (d : Nat) : ∃ j : Option rz_V × Option rz_V × Option rz_V, rW (d + 3) 121 (13, (0, 0), [some (rz_r (some 109)), none, some (rz_i (nI M)), some (rz_i (nI M)), some (rz_i (nI 0)), none], [], h) = rW (d + 3) 121 (6, (0, 0), [some (rz_r (some 109)), j.1, some (rz_i (nI (msw B M))), some (rz_i (nI M)), j.2.1, j.2.2], [], h) := by
  have hL : isL 3 := Or.inl rfl
  have hM := set_lt h8
  have inn : ∀ a s (jk : Option rz_V), a < 8 → ∃ j2 : Option rz_V, rW (d + 3) 121 (18, (0, 0), [some (rz_r (some 109)), jk, some (rz_i (nI s)), some (rz_i (nI M)), some (rz_i (nI a)), some (rz_i (nI 0))], [], h) = rW (d + 3) 121 (18, (0, 0), [some (rz_r (some 109)), j2, some (rz_i (nI (mof B M a s))), some (rz_i (nI M)), some (rz_i (nI a)), some (rz_i (nI 8))], [], h) := fun a s jk ha => by
    refine (lp_ji (fun b s (jk : Option rz_V) => rW (d + 3) 121 (18, (0, 0), [some (rz_r (some 109)), jk, some (rz_i (nI s)), some (rz_i (nI M)), some (rz_i (nI a)), some (rz_i (nI b))], [], h)) (mif B M a) (fun _ _ => True) 8 (fun b s jk hb _ => ⟨⟨none, ?_⟩, trivial⟩) 8 0 s jk (by omega) trivial).1
    have eb : eyb (nI M) a = M.testBit a := eyb_nI (by omega) (by omega)
    have v39 := V39 w hL r1 r2 hb
    rw [show (!decide (hI h 110 (256 + b) = 0)) = tdk h b from rfl] at v39
    obtain ⟨c0, hc⟩ := hB b hb
    obtain ⟨a0, hA⟩ := hB a ha
    rw [E121_18]
    unfold mif
    cases hm : M.testBit a with
    | false =>
      rw [hm] at eb
      simp (disch := omega) only [bI_some, bV_some, bR_some, bL_some, ob_some, cd_t, cd_f, cd_d, okO_setI, okA_setI, okL_setI, aLen_setI, hR_setI, hI_setI, Bool.true_and, Bool.and_true, Bool.and_self, Option.isNone_some, Option.isSome_some, Option.isNone_none, Option.isSome_none, okO_chI, okA_chI, okL_chI, aLen_chI, hR_chI, ↓reduceIte, not_true_eq_false, not_false_eq_true, eq_self, c10, Nat.zero_add, nI_add, litA, litB, litM, nI_mul, nI_leI, nI_ltI, nI_eq, litLe, litLe2, litLt, litLt2, litEq, litEq2, in_nI, lit_in, nI_clamp, lit_cl, if_pos, if_neg, WMd w, S36, eb, bI1, Bool.false_eq_true, false_and]
    | true =>
      rw [hm] at eb
      have hta := ht a hm
      rcases hA with ⟨-, -, a3, -⟩ | ⟨a1, -⟩
      · rcases hc with ⟨c1, -, c3, -⟩ | ⟨c1, c2⟩
        · have ca := and0 (a := B a) c0
          by_cases c : B a &&& B b = 0 <;> simp (disch := omega) only [bI_some, bV_some, bR_some, bL_some, ob_some, cd_t, cd_f, cd_d, okO_setI, okA_setI, okL_setI, aLen_setI, hR_setI, hI_setI, Bool.true_and, Bool.and_true, Bool.and_self, Option.isNone_some, Option.isSome_some, Option.isNone_none, Option.isSome_none, okO_chI, okA_chI, okL_chI, aLen_chI, hR_chI, ↓reduceIte, not_true_eq_false, not_false_eq_true, eq_self, c10, Nat.zero_add, nI_add, litA, litB, litM, nI_mul, nI_leI, nI_ltI, nI_eq, litLe, litLe2, litLt, litLt2, litEq, litEq2, in_nI, lit_in, nI_clamp, lit_cl, if_pos, if_neg, WMd w, S36, eb, bI1, v39, c1, a3, c3, ca, c, bit_nI, nI_or, true_and]
        · have z2 : B a &&& 0 = 0 := Nat.and_zero _
          simp (disch := omega) only [bI_some, bV_some, bR_some, bL_some, ob_some, cd_t, cd_f, cd_d, okO_setI, okA_setI, okL_setI, aLen_setI, hR_setI, hI_setI, Bool.true_and, Bool.and_true, Bool.and_self, Option.isNone_some, Option.isSome_some, Option.isNone_none, Option.isSome_none, okO_chI, okA_chI, okL_chI, aLen_chI, hR_chI, ↓reduceIte, not_true_eq_false, not_false_eq_true, eq_self, c10, Nat.zero_add, nI_add, litA, litB, litM, nI_mul, nI_leI, nI_ltI, nI_eq, litLe, litLe2, litLt, litLt2, litEq, litEq2, in_nI, lit_in, nI_clamp, lit_cl, if_pos, if_neg, WMd w, S36, eb, bI1, v39, c1, Bool.false_eq_true, true_and]
          rw [c2, if_neg (fun q => q z2)]
      · rw [a1] at hta; exact absurd hta (by simp)
  obtain ⟨⟨j, e⟩, -⟩ := lp_ji (fun a s (jk : Option rz_V × Option rz_V) => rW (d + 3) 121 (13, (0, 0), [some (rz_r (some 109)), jk.1, some (rz_i (nI s)), some (rz_i (nI M)), some (rz_i (nI a)), jk.2], [], h)) (mof B M) (fun _ _ => True) 8 (fun a s jk ha _ => by
    obtain ⟨j2, e2⟩ := inn a s none ha
    refine ⟨⟨(none, some (rz_i (nI 8))), ?_⟩, trivial⟩
    show rW (d + 3) 121 (13, (0, 0), [some (rz_r (some 109)), jk.1, some (rz_i (nI s)), some (rz_i (nI M)), some (rz_i (nI a)), jk.2], [], h) = _
    rw [E121_13]
    simp (disch := omega) only [bI_some, bV_some, bR_some, bL_some, ob_some, cd_t, cd_f, cd_d, okO_setI, okA_setI, okL_setI, aLen_setI, hR_setI, hI_setI, Bool.true_and, Bool.and_true, Bool.and_self, Option.isNone_some, Option.isSome_some, Option.isNone_none, Option.isSome_none, okO_chI, okA_chI, okL_chI, aLen_chI, hR_chI, ↓reduceIte, not_true_eq_false, not_false_eq_true, eq_self, c10, Nat.zero_add, nI_add, litA, litB, litM, nI_mul, nI_leI, nI_ltI, nI_eq, litLe, litLe2, litLt, litLt2, litEq, litEq2, in_nI, lit_in, nI_clamp, lit_cl, if_pos, if_neg]
    refine Eq.trans e2 ?_
    rw [E121_18]
    simp (disch := omega) only [bI_some, bV_some, bR_some, bL_some, ob_some, cd_t, cd_f, cd_d, okO_setI, okA_setI, okL_setI, aLen_setI, hR_setI, hI_setI, Bool.true_and, Bool.and_true, Bool.and_self, Option.isNone_some, Option.isSome_some, Option.isNone_none, Option.isSome_none, okO_chI, okA_chI, okL_chI, aLen_chI, hR_chI, ↓reduceIte, not_true_eq_false, not_false_eq_true, eq_self, c10, Nat.zero_add, nI_add, litA, litB, litM, nI_mul, nI_leI, nI_ltI, nI_eq, litLe, litLe2, litLt, litLt2, litEq, litEq2, in_nI, lit_in, nI_clamp, lit_cl, if_pos, if_neg]) 8 0 M (none, none) (by omega) trivial
  refine ⟨(none, some (rz_i (nI 8)), none), Eq.trans e ?_⟩
  rw [E121_13]
  simp (disch := omega) only [bI_some, bV_some, bR_some, bL_some, ob_some, cd_t, cd_f, cd_d, okO_setI, okA_setI, okL_setI, aLen_setI, hR_setI, hI_setI, Bool.true_and, Bool.and_true, Bool.and_self, Option.isNone_some, Option.isSome_some, Option.isNone_none, Option.isSome_none, okO_chI, okA_chI, okL_chI, aLen_chI, hR_chI, ↓reduceIte, not_true_eq_false, not_false_eq_true, eq_self, c10, Nat.zero_add, nI_add, litA, litB, litM, nI_mul, nI_leI, nI_ltI, nI_eq, litLe, litLe2, litLt, litLt2, litEq, litEq2, in_nI, lit_in, nI_clamp, lit_cl, if_pos, if_neg]
  rfl
theorem G121 {rb dr : Nat} {jd : Option Nat} {h : rz_H} (w : Wf rb dr jd h) (r1 : LaOk h 3) (r2 : LaRel h 3 110) {B : Nat → Nat} (hB : ∀ j, j < 8 → BP h j (B j)) {k : Nat} (hk : k < 8) (ht : tdk h k = true) (d : Nat) : cW (d + 4) 121 [rz_r (some 109), rz_i (nI k)] h = some (rz_i (nI (lgr B k)), h) := by
  have ct : clo B (fun j => tdk h j = true) := fun a b ha hb _ hab => by
    rcases (hB b hb).2 with ⟨c1, -⟩ | ⟨c1, c2⟩
    · exact c1
    · rw [c2] at hab; exact absurd (Nat.and_zero _) hab
  have key : ∀ n M bf, mnv B k M → 8 ≤ n + cnt (fun j => M.testBit j) 8 → M ≠ bf → bf < 65536 → ∀ j : Option rz_V × Option rz_V × Option rz_V, rW (d + 3) 121 (6, (0, 0), [some (rz_r (some 109)), j.1, some (rz_i (nI M)), some (rz_i (nI bf)), j.2.1, j.2.2], [], h) = some (rz_i (nI (lgr B k)), h) := by
    intro n
    induction n with
    | zero =>
      intro M bf I hc hne hbf j
      have hM := set_lt I.1
      obtain ⟨j2, e2⟩ := G121s w r1 r2 hB I.1 (fun j hj => I.2.2 _ ct ht j hj) d
      have hall : ∀ i, i < 8 → M.testBit i = true := (cnt_all (fun j => M.testBit j) 8).mp (by have := cnt_le (fun j => M.testBit j) 8; omega)
      have es : msw B M = M := set_eq (fun b hb => hall b ((mnv_w I).1 b hb)) (fun b hb => (mof_t B M 8 M b).mpr (Or.inl hb))
      rw [E121_6]
      simp (disch := omega) only [bI_some, bV_some, bR_some, bL_some, ob_some, cd_t, cd_f, cd_d, okO_setI, okA_setI, okL_setI, aLen_setI, hR_setI, hI_setI, Bool.true_and, Bool.and_true, Bool.and_self, Option.isNone_some, Option.isSome_some, Option.isNone_none, Option.isSome_none, okO_chI, okA_chI, okL_chI, aLen_chI, hR_chI, ↓reduceIte, not_true_eq_false, not_false_eq_true, eq_self, c10, Nat.zero_add, nI_add, litA, litB, litM, nI_mul, nI_leI, nI_ltI, nI_eq, litLe, litLe2, litLt, litLt2, litEq, litEq2, in_nI, lit_in, nI_clamp, lit_cl, if_pos, if_neg, hne]
      refine Eq.trans e2 ?_
      rw [E121_6, es]
      simp (disch := omega) only [bI_some, bV_some, bR_some, bL_some, ob_some, cd_t, cd_f, cd_d, okO_setI, okA_setI, okL_setI, aLen_setI, hR_setI, hI_setI, Bool.true_and, Bool.and_true, Bool.and_self, Option.isNone_some, Option.isSome_some, Option.isNone_none, Option.isSome_none, okO_chI, okA_chI, okL_chI, aLen_chI, hR_chI, ↓reduceIte, not_true_eq_false, not_false_eq_true, eq_self, c10, Nat.zero_add, nI_add, litA, litB, litM, nI_mul, nI_leI, nI_ltI, nI_eq, litLe, litLe2, litLt, litLt2, litEq, litEq2, in_nI, lit_in, nI_clamp, lit_cl, if_pos, if_neg]
      rw [mnv_d hk I es]
    | succ n ih =>
      intro M bf I hc hne hbf j
      have hM := set_lt I.1
      obtain ⟨j2, e2⟩ := G121s w r1 r2 hB I.1 (fun j hj => I.2.2 _ ct ht j hj) d
      rw [E121_6]
      simp (disch := omega) only [bI_some, bV_some, bR_some, bL_some, ob_some, cd_t, cd_f, cd_d, okO_setI, okA_setI, okL_setI, aLen_setI, hR_setI, hI_setI, Bool.true_and, Bool.and_true, Bool.and_self, Option.isNone_some, Option.isSome_some, Option.isNone_none, Option.isSome_none, okO_chI, okA_chI, okL_chI, aLen_chI, hR_chI, ↓reduceIte, not_true_eq_false, not_false_eq_true, eq_self, c10, Nat.zero_add, nI_add, litA, litB, litM, nI_mul, nI_leI, nI_ltI, nI_eq, litLe, litLe2, litLt, litLt2, litEq, litEq2, in_nI, lit_in, nI_clamp, lit_cl, if_pos, if_neg, hne]
      refine Eq.trans e2 ?_
      by_cases es : msw B M = M
      · rw [E121_6, es]
        simp (disch := omega) only [bI_some, bV_some, bR_some, bL_some, ob_some, cd_t, cd_f, cd_d, okO_setI, okA_setI, okL_setI, aLen_setI, hR_setI, hI_setI, Bool.true_and, Bool.and_true, Bool.and_self, Option.isNone_some, Option.isSome_some, Option.isNone_none, Option.isSome_none, okO_chI, okA_chI, okL_chI, aLen_chI, hR_chI, ↓reduceIte, not_true_eq_false, not_false_eq_true, eq_self, c10, Nat.zero_add, nI_add, litA, litB, litM, nI_mul, nI_leI, nI_ltI, nI_eq, litLe, litLe2, litLt, litLt2, litEq, litEq2, in_nI, lit_in, nI_clamp, lit_cl, if_pos, if_neg]
        rw [mnv_d hk I es]
      · refine ih (msw B M) M (mnv_w I) ?_ es (by omega) j2
        have hb : ∃ b, b < 8 ∧ (msw B M).testBit b = true ∧ M.testBit b = false := by
          refine Classical.byContradiction fun hn => es (set_eq (fun b hb => ?_) (fun b hb => (mof_t B M 8 M b).mpr (Or.inl hb)))
          cases e : M.testBit b with
          | true => rfl
          | false => exact absurd ⟨b, (mnv_w I).1 b hb, hb, e⟩ hn
        obtain ⟨b, b1, b2, b3⟩ := hb
        have := cnt_str (p := fun j => M.testBit j) (q := fun j => (msw B M).testBit j) (fun i hi => (mof_t B M 8 M i).mpr (Or.inl hi)) b3 b2 8 b1
        omega
  rw [E121]
  simp (disch := omega) only [bit_nI]
  have I0 := lin_0 B hk
  refine key 8 (2 ^ k) 0 ⟨I0.2.1, I0.2.2.1, I0.2.2.2⟩ (by omega) (fun e => ?_) (by omega) (some (rz_i (nI k)), none, none)
  have := Nat.two_pow_pos k
  omega
def lnf (h : rz_H) (B : Nat → Nat) (k : Nat) (s : Nat × Nat) : Nat × Nat := if tdk h k = true ∧ s.2.testBit k = false then (s.1 + 1, s.2 ||| lgr B k) else s
theorem P22 (x : Int32) : Pr Rel 22 122 [rz_i x] := by
  intro h r
  obtain ⟨rb, dr, jd, w, r1, r2, r3, r4, r5⟩ := id r
  have hL : isL 3 := Or.inl rfl
  obtain ⟨B, hB⟩ := mkB w r1 r2
  have lg : ∀ k, k < 8 → lgr B k < 65536 := fun k hk => by
    have := set_lt (lgr_ok B hk).1
    omega
  by_cases hx : x = 100
  · subst hx
    have c189 : ∀ k, k < 8 → tdk h k = true → ∀ d, cW (d + 4) 189 [rz_r (some 3), rz_i (nI k)] h = some (rz_i (nI (lgr B k)), h) := fun k hk ht => G189 w r1 r2 hB hk ht
    have c121 : ∀ k, k < 8 → tdk h k = true → ∀ d, cW (d + 4) 121 [rz_r (some 109), rz_i (nI k)] h = some (rz_i (nI (lgr B k)), h) := fun k hk ht => G121 w r1 r2 hB hk ht
    have inv : ∀ (k : Nat) (s : Nat × Nat), k < 8 → s.1 ≤ k ∧ s.2 < 65536 → (lnf h B k s).1 ≤ k + 1 ∧ (lnf h B k s).2 < 65536 := fun k s hk hs => by
      unfold lnf
      split
      · exact ⟨by show s.1 + 1 ≤ k + 1; omega, or_lt hs.2 (lg k hk)⟩
      · exact ⟨by omega, hs.2⟩
    have lc := lp_ji (τ := Unit) (fun k (s : Nat × Nat) _ => rW 98 190 (6, (0, 0), [some (rz_r (some 3)), some (rz_i (nI s.1)), some (rz_i (nI s.2)), some (rz_i (nI k))], [], h)) (lnf h B) (fun k s => s.1 ≤ k ∧ s.2 < 65536) 8 (fun k s _ hk hs => by
      refine ⟨⟨(), ?_⟩, inv k s hk hs⟩
      obtain ⟨k1, k2⟩ := WLk w hL hk
      have l142 := L142 w hL r1 r2 hk
      have e5 : 3 + 2 + 3 * k = 5 + 3 * k := by omega
      rw [e5] at k1 k2 l142
      have nh := nI_has (n := s.2) (k := k) (by omega) (by omega)
      rw [E190_6]
      unfold lnf
      cases ht : tdk h k with
      | false => simp (disch := omega) only [bI_some, bV_some, bR_some, bL_some, ob_some, cd_t, cd_f, cd_d, okO_setI, okA_setI, okL_setI, aLen_setI, hR_setI, hI_setI, Bool.true_and, Bool.and_true, Bool.and_self, Option.isNone_some, Option.isSome_some, Option.isNone_none, Option.isSome_none, okO_chI, okA_chI, okL_chI, aLen_chI, hR_chI, ↓reduceIte, not_true_eq_false, not_false_eq_true, eq_self, c10, Nat.zero_add, nI_add, litA, litB, litM, nI_mul, nI_leI, nI_ltI, nI_eq, litLe, litLe2, litLt, litLt2, litEq, litEq2, in_nI, lit_in, nI_clamp, lit_cl, if_pos, if_neg, WLd w hL, k1, WD w k2, l142, ht, bI1, Bool.false_eq_true, false_and]
      | true =>
        cases hb : s.2.testBit k with
        | true =>
          rw [hb] at nh
          simp (disch := omega) only [bI_some, bV_some, bR_some, bL_some, ob_some, cd_t, cd_f, cd_d, okO_setI, okA_setI, okL_setI, aLen_setI, hR_setI, hI_setI, Bool.true_and, Bool.and_true, Bool.and_self, Option.isNone_some, Option.isSome_some, Option.isNone_none, Option.isSome_none, okO_chI, okA_chI, okL_chI, aLen_chI, hR_chI, ↓reduceIte, not_true_eq_false, not_false_eq_true, eq_self, c10, Nat.zero_add, nI_add, litA, litB, litM, nI_mul, nI_leI, nI_ltI, nI_eq, litLe, litLe2, litLt, litLt2, litEq, litEq2, in_nI, lit_in, nI_clamp, lit_cl, if_pos, if_neg, WLd w hL, k1, WD w k2, l142, ht, bI1, nh, Bool.true_eq_false, and_false]
        | false =>
          rw [hb] at nh
          simp (disch := omega) only [bI_some, bV_some, bR_some, bL_some, ob_some, cd_t, cd_f, cd_d, okO_setI, okA_setI, okL_setI, aLen_setI, hR_setI, hI_setI, Bool.true_and, Bool.and_true, Bool.and_self, Option.isNone_some, Option.isSome_some, Option.isNone_none, Option.isSome_none, okO_chI, okA_chI, okL_chI, aLen_chI, hR_chI, ↓reduceIte, not_true_eq_false, not_false_eq_true, eq_self, c10, Nat.zero_add, nI_add, litA, litB, litM, nI_mul, nI_leI, nI_ltI, nI_eq, litLe, litLe2, litLt, litLt2, litEq, litEq2, in_nI, lit_in, nI_clamp, lit_cl, if_pos, if_neg, WLd w hL, k1, WD w k2, l142, ht, bI1, nh, Bool.false_eq_true, c189 k hk ht, nI_or, and_self]) 8 0 (0, 0) () (by omega) ⟨by omega, by omega⟩
    have lm := lp_ji (fun k (s : Nat × Nat) (j : Option rz_V) => rW 99 122 (19, (0, 0), [some (rz_r (some 109)), j, some (rz_i (nI s.1)), some (rz_i (nI s.2)), some (rz_i (nI k))], [], h)) (lnf h B) (fun k s => s.1 ≤ k ∧ s.2 < 65536) 8 (fun k s j hk hs => by
      refine ⟨⟨none, ?_⟩, inv k s hk hs⟩
      have v39 := V39 w hL r1 r2 hk
      rw [show (!decide (hI h 110 (256 + k) = 0)) = tdk h k from rfl] at v39
      have eb : eyb (nI s.2) k = s.2.testBit k := eyb_nI (by omega) (by omega)
      rw [E122_19]
      unfold lnf
      cases ht : tdk h k with
      | false => simp (disch := omega) only [bI_some, bV_some, bR_some, bL_some, ob_some, cd_t, cd_f, cd_d, okO_setI, okA_setI, okL_setI, aLen_setI, hR_setI, hI_setI, Bool.true_and, Bool.and_true, Bool.and_self, Option.isNone_some, Option.isSome_some, Option.isNone_none, Option.isSome_none, okO_chI, okA_chI, okL_chI, aLen_chI, hR_chI, ↓reduceIte, not_true_eq_false, not_false_eq_true, eq_self, c10, Nat.zero_add, nI_add, litA, litB, litM, nI_mul, nI_leI, nI_ltI, nI_eq, litLe, litLe2, litLt, litLt2, litEq, litEq2, in_nI, lit_in, nI_clamp, lit_cl, if_pos, if_neg, WMd w, v39, ht, bI1, Bool.false_eq_true, false_and]
      | true =>
        cases hb : s.2.testBit k with
        | true =>
          rw [hb] at eb
          simp (disch := omega) only [bI_some, bV_some, bR_some, bL_some, ob_some, cd_t, cd_f, cd_d, okO_setI, okA_setI, okL_setI, aLen_setI, hR_setI, hI_setI, Bool.true_and, Bool.and_true, Bool.and_self, Option.isNone_some, Option.isSome_some, Option.isNone_none, Option.isSome_none, okO_chI, okA_chI, okL_chI, aLen_chI, hR_chI, ↓reduceIte, not_true_eq_false, not_false_eq_true, eq_self, c10, Nat.zero_add, nI_add, litA, litB, litM, nI_mul, nI_leI, nI_ltI, nI_eq, litLe, litLe2, litLt, litLt2, litEq, litEq2, in_nI, lit_in, nI_clamp, lit_cl, if_pos, if_neg, WMd w, v39, ht, bI1, S36, eb, Bool.true_eq_false, and_false]
        | false =>
          rw [hb] at eb
          simp (disch := omega) only [bI_some, bV_some, bR_some, bL_some, ob_some, cd_t, cd_f, cd_d, okO_setI, okA_setI, okL_setI, aLen_setI, hR_setI, hI_setI, Bool.true_and, Bool.and_true, Bool.and_self, Option.isNone_some, Option.isSome_some, Option.isNone_none, Option.isSome_none, okO_chI, okA_chI, okL_chI, aLen_chI, hR_chI, ↓reduceIte, not_true_eq_false, not_false_eq_true, eq_self, c10, Nat.zero_add, nI_add, litA, litB, litM, nI_mul, nI_leI, nI_ltI, nI_eq, litLe, litLe2, litLt, litLt2, litEq, litEq2, in_nI, lit_in, nI_clamp, lit_cl, if_pos, if_neg, WMd w, v39, ht, bI1, S36, eb, Bool.false_eq_true, c121 k hk ht, nI_or, and_self]) 8 0 (0, 0) (some (rz_i 100)) (by omega) ⟨by omega, by omega⟩
    obtain ⟨⟨-, ec⟩, -⟩ := lc
    obtain ⟨⟨jm, em⟩, -⟩ := lm
    have ec : cW 99 190 [rz_r (some 3)] h = some (rz_i (nI (itr (lnf h B) 0 8 (0, 0)).1), h) := by
      rw [show 99 = 98 + 1 from rfl, E190]
      refine Eq.trans ec ?_
      rw [E190_6]
      simp (disch := omega) only [bI_some, bV_some, bR_some, bL_some, ob_some, cd_t, cd_f, cd_d, okO_setI, okA_setI, okL_setI, aLen_setI, hR_setI, hI_setI, Bool.true_and, Bool.and_true, Bool.and_self, Option.isNone_some, Option.isSome_some, Option.isNone_none, Option.isSome_none, okO_chI, okA_chI, okL_chI, aLen_chI, hR_chI, ↓reduceIte, not_true_eq_false, not_false_eq_true, eq_self, c10, Nat.zero_add, nI_add, litA, litB, litM, nI_mul, nI_leI, nI_ltI, nI_eq, litLe, litLe2, litLt, litLt2, litEq, litEq2, in_nI, lit_in, nI_clamp, lit_cl, if_pos, if_neg, WLd w hL]
    refine ⟨nI (itr (lnf h B) 0 8 (0, 0)).1, h, h, ?_, ?_, (WMd w).1, r⟩
    · rw [show DD = 99 + 1 from rfl, E22]
      simp only [bI_some, bV_some, bR_some, bL_some, ob_some, cd_t, cd_f, cd_d, okO_setI, okA_setI, okL_setI, aLen_setI, hR_setI, hI_setI, Bool.true_and, Bool.and_true, Bool.and_self, Option.isNone_some, Option.isSome_some, Option.isNone_none, Option.isSome_none, okO_chI, okA_chI, okL_chI, aLen_chI, hR_chI, ↓reduceIte, not_true_eq_false, not_false_eq_true, eq_self, c10, WRt w, ec]
    · rw [show DD = 99 + 1 from rfl, E122]
      simp only [bI_some, bV_some, bR_some, bL_some, ob_some, cd_t, cd_f, cd_d, okO_setI, okA_setI, okL_setI, aLen_setI, hR_setI, hI_setI, Bool.true_and, Bool.and_true, Bool.and_self, Option.isNone_some, Option.isSome_some, Option.isNone_none, Option.isSome_none, okO_chI, okA_chI, okL_chI, aLen_chI, hR_chI, ↓reduceIte, not_true_eq_false, not_false_eq_true, eq_self, c10]
      refine Eq.trans em ?_
      rw [E122_19]
      simp (disch := omega) only [bI_some, bV_some, bR_some, bL_some, ob_some, cd_t, cd_f, cd_d, okO_setI, okA_setI, okL_setI, aLen_setI, hR_setI, hI_setI, Bool.true_and, Bool.and_true, Bool.and_self, Option.isNone_some, Option.isSome_some, Option.isNone_none, Option.isSome_none, okO_chI, okA_chI, okL_chI, aLen_chI, hR_chI, ↓reduceIte, not_true_eq_false, not_false_eq_true, eq_self, c10, Nat.zero_add, nI_add, litA, litB, litM, nI_mul, nI_leI, nI_ltI, nI_eq, litLe, litLe2, litLt, litLt2, litEq, litEq2, in_nI, lit_in, nI_clamp, lit_cl, if_pos, if_neg]
  · rcases tld r1 r2 x with ⟨k, F, g, rfl, q⟩ | n
    · have ht : tdk h k = true := by
        unfold tdk
        rw [q.2.2.2.2.2.1, decide_eq_false (nI_ne0 q.2.1 (by have := q.2.2.1; omega))]; rfl
      refine ⟨nI (lgr B k), h, h, ?_, ?_, (WMd w).1, r⟩
      · rw [show DD = 99 + 1 from rfl, E22]
        simp only [bI_some, bV_some, bR_some, bL_some, ob_some, cd_t, cd_f, cd_d, okO_setI, okA_setI, okL_setI, aLen_setI, hR_setI, hI_setI, Bool.true_and, Bool.and_true, Bool.and_self, Option.isNone_some, Option.isSome_some, Option.isNone_none, Option.isSome_none, okO_chI, okA_chI, okL_chI, aLen_chI, hR_chI, ↓reduceIte, not_true_eq_false, not_false_eq_true, eq_self, c10, WRt w, hx, Q181 w q, G189 w r1 r2 hB q.1 ht]
      · rw [show DD = 99 + 1 from rfl, E122]
        simp only [bI_some, bV_some, bR_some, bL_some, ob_some, cd_t, cd_f, cd_d, okO_setI, okA_setI, okL_setI, aLen_setI, hR_setI, hI_setI, Bool.true_and, Bool.and_true, Bool.and_self, Option.isNone_some, Option.isSome_some, Option.isNone_none, Option.isSome_none, okO_chI, okA_chI, okL_chI, aLen_chI, hR_chI, ↓reduceIte, not_true_eq_false, not_false_eq_true, eq_self, c10, WMd w, hx, Q39 w q, G121 w r1 r2 hB q.1 ht]
    · refine ⟨-1, h, h, ?_, ?_, (WMd w).1, r⟩
      · rw [show DD = 99 + 1 from rfl, E22]
        simp only [bI_some, bV_some, bR_some, bL_some, ob_some, cd_t, cd_f, cd_d, okO_setI, okA_setI, okL_setI, aLen_setI, hR_setI, hI_setI, Bool.true_and, Bool.and_true, Bool.and_self, Option.isNone_some, Option.isSome_some, Option.isNone_none, Option.isSome_none, okO_chI, okA_chI, okL_chI, aLen_chI, hR_chI, ↓reduceIte, not_true_eq_false, not_false_eq_true, eq_self, c10, WRt w, hx, N181 w n]
      · rw [show DD = 99 + 1 from rfl, E122]
        simp only [bI_some, bV_some, bR_some, bL_some, ob_some, cd_t, cd_f, cd_d, okO_setI, okA_setI, okL_setI, aLen_setI, hR_setI, hI_setI, Bool.true_and, Bool.and_true, Bool.and_self, Option.isNone_some, Option.isSome_some, Option.isNone_none, Option.isSome_none, okO_chI, okA_chI, okL_chI, aLen_chI, hR_chI, ↓reduceIte, not_true_eq_false, not_false_eq_true, eq_self, c10, WMd w, hx, N39 w n]
