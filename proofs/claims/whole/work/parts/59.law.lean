/-! the law: out of its pure run -/
def R_law : String := "RoundSentencesLaw"
def lw_P (b : Addr) (xs : List Int32) (args : Array Value) (s : State) : Prop := args = #[.ref b] ∧ s.IntsAt b xs ∧ xs.length ≤ 3072 ∧ (Jvm.Cond.and given_1 narrow_1).before args s = true
def lw_Q (_ : Array Value) (s : State) (o : Outcome) (t : State) : Prop := o = .returned (some (.int 1)) ∧ Framed s o t [] 600000 7302250
def lw_Z (below : List Frame) (a : Array Value) (s : State) : State → Prop := fun t => ∃ o, t.status = .running ∧ Ended t below o ∧ lw_Q a s o t
/-- the law's own end, with 1 on the stack, nothing written that was there before, its room as the claim has it -/
theorem lw_ret {p : Program} {l : Launch} {e : Env} {s : State} {m : MethodId} {below : List Frame} {meth : Method} {c : Code} {b : Nat} (hx : p.tables.exec = Jvm.exec) (hb : c.code = code) (hr : meth.sig.returnType = ret) (hlocks : meth.locks = false) {pc : Nat} {H : Heap} {ls : Array Slot} (hdg : decode code pc = .ok (.ireturn, 1)) : W p l e room_1 s m #[Value.ref b] below meth c H [] 600000 7302250 (lw_Z below #[Value.ref b] s) (F0 m pc ls [.int 1]) := by
  intro T hT X
  obtain ⟨fs, hret, hrun, hended, hW, hframe⟩ := X.leave (v := some (.int 1)) (hlocks := hlocks) (fun h => by rw [hr] at h; cases h)
  have hmeth' : T.vm.method? m = some meth := X.method'
  refine ⟨T.setFrames fs, ?_, .returned (some (.int 1)), hrun, hended, rfl, ⟨_, rfl⟩, hW, hframe⟩
  jvm_step X.here [X.here.top, hx, hb, hdg, hmeth', hr, ret, narrow_b1]
  (try refine ⟨rfl, ?_⟩); (try refine ⟨rfl, ?_⟩)
  first | (intro acts; rw [hret _ acts rfl rfl rfl]) | rw [hret _ _ rfl rfl rfl]
  exact Steps.refl _
/-- what holds at the law's entry: the machine, the code, the tables' words (any of lw_tbl by 'hts w (by decide +kernel)'), the script of L ints xs at the cell b, what the Statement gives of the start (any of its parts by flat_of_before) -/
def lw_At (p : Program) (s : State) (m : MethodId) (meth : Method) (c : Code) (b L : Nat) (xs : Nat → Int32) : Prop :=
  p.tables.exec = Jvm.exec ∧ c.code = code ∧ meth.sig.returnType = ret ∧ c.maxLocals = 4 ∧ s.vm.findClass R_law = some m.cls ∧ (∀ w ∈ lw_tbl, w.before #[Value.ref b] s = true) ∧ va_X b L xs s s.heap ∧ b < s.heap.size ∧ meth.locks = false ∧ (Jvm.Cond.and given_1 narrow_1).before #[Value.ref b] s = true
def kIp : Nat → Nat := fun c => match c with
  | 0 => 1046
  | 1 => 1143
  | 2 => 1188
  | 3 => 1039
  | 4 => 1089
  | 5 => 1087
  | 6 => 1161
  | 7 => 1219
  | 8 => 1025
  | 9 => 1017
  | _ => 5062
theorem ck_insR : (List.range 11).all (fun c => rz_at (kIp c) (.instantiable (kC c) (kN c))) = true := by decide +kernel
theorem ck_a0 : rz_at 1037 (.arrayClass .int) = true := by decide +kernel
theorem ck_a1 : rz_at 5188 (.arrayClass .byte) = true := by decide +kernel
theorem ck_a2 : rz_tb 1045 = some (.arrayOver (.object (kC 0))) := by decide +kernel
theorem law_nm : (mY 273).cls = R_law := by decide +kernel
theorem law_nn : (mY 273).name ≠ "<init>" := by decide +kernel
theorem law_bd : (mB 273).1 ≤ 600000 ∧ (mB 273).2 ≤ 7302250 := by decide +kernel
theorem law_pc : rpc 273 0 = 0 := by decide +kernel
theorem law_ml : mL 273 = 4 := by decide +kernel
theorem law_mk : mK 273 = 4 := by decide +kernel
/-- the world at the start -/
theorem law_K {s : State} {args : Array Value} (hts : ∀ w ∈ lw_tbl, w.before args s = true) : ∃ (D : va_G) (ca : Nat → ClassId), va_K D kCl (tys ca) s := by
  have hG : ∀ w ∈ lwG, w.before args s = true := fun w hw => hts w (List.mem_filter.mp hw).1
  have h1 : ∀ c, ∃ q : ClassId × (Nat → Nat), c < 11 → u_Kn s (kC c) (kT c) (kN c) q.1 q.2 := by
    intro c
    by_cases hc : c < 11
    · obtain ⟨cC, iS, h⟩ := u_known (n := kN c) hG (kIn c hc) (hG _ (rz_at_mem (List.all_eq_true.mp ck_insR c (List.mem_range.mpr hc))))
      exact ⟨(cC, iS), fun _ => h⟩
    · exact ⟨(0, fun _ => 0), fun h => absurd h hc⟩
  obtain ⟨a0, k0, p0, e0, f0, g0⟩ := Cond.arrayClass_spec (hG _ (rz_at_mem ck_a0))
  obtain ⟨a1, k1, p1, e1, f1, g1⟩ := Cond.arrayClass_spec (hG _ (rz_at_mem ck_a1))
  obtain ⟨p2, a2, k2, d2, -, f2, g2, e2⟩ := Cond.arrayOver_spec (hts _ (rz_tb_in ck_a2))
  refine ⟨(fun c => (Classical.choose (h1 c)).1, fun c => (Classical.choose (h1 c)).2), fun t => match t with
    | 0 => a0
    | 1 => a1
    | _ => a2, fun c q hq => ?_, fun k q hq => ?_⟩
  · have hc : c < 11 := (List.getElem?_eq_some_iff.mp hq).1
    rw [kCl_get c hc] at hq
    cases hq
    exact Classical.choose_spec (h1 c) hc
  · have hk : k < 3 := (List.getElem?_eq_some_iff.mp hq).1
    rcases (show k = 0 ∨ k = 1 ∨ k = 2 by omega) with rfl | rfl | rfl
    · cases hq
      exact ⟨fun n z => ⟨fun k h => (by cases h), k0, f0, p0, g0⟩, e0⟩
    · cases hq
      exact ⟨fun n z => ⟨fun k h => (by cases h), k1, f1, p1, g1⟩, e1⟩
    · cases hq
      exact ⟨fun n z => ⟨fun k h => (by cases h), k2, f2, p2, g2⟩, k2, p2, f2, g2, d2, e2⟩
/-- what is left to show: the law's pure run, for every script, comes to 1 -/
def law_pure : Prop := ∀ (L : Nat) (xs : Nat → Int32), L ≤ 3072 → ∃ (d : Nat) (h : rz_H), d ≤ 2000 ∧ lawW d L xs (0, mB 273, [some rz_s, none, none, none], [], h00) = some (rz_i 1, h)
theorem whole_open (hT : rz_Tab) (hP : law_pure) {p : Program} {e : Env} {s : State} {m : MethodId} {below : List Frame} {meth : Method} {c : Code} (l : Launch) {b L : Nat} {xs : Nat → Int32} (hL : L ≤ 3072) (C0 : lw_At p s m meth c b L xs) : W p l e room_1 s m #[Value.ref b] below meth c s.heap [] 0 0 (lw_Z below #[Value.ref b] s) (entryFrame m ([Value.ref b] : List Value).toArray 4) := by
  obtain ⟨hx, hb, hr, hml, hown, hts, hX, hbl, hlocks, hgv⟩ := id C0
  obtain ⟨hrows, hme, hzM, hp0⟩ := id hT
  obtain ⟨D, ca, hK⟩ := law_K hts
  obtain ⟨d, h', hd, hrun⟩ := hP L xs hL
  obtain ⟨n, hn⟩ := (rz_W_iff _ _ _ _).mp hrun
  have C : rz_Cx p s m #[Value.ref b] meth c room_1 273 s.heap.size b (mB 273).1 (mB 273).2 D ca (some (L, xs)) :=
    ⟨hx, hb, hml.trans law_ml.symm, by rw [law_nm]; exact hown, fun w hw => hts w (List.mem_filter.mp hw).1, hK, hts _ (rz_tb_in ck_a2), fun q => absurd q law_nn, Nat.le_refl _, law_bd.1, law_bd.2, Nat.le_of_ble_eq_true rfl, Nat.le_of_ble_eq_true rfl, fun L2 xs2 q => by
      cases q
      exact ⟨hX, hbl⟩⟩
  have w := rz_run (e := e) (Q := lw_Z below #[Value.ref b] s) (below := below) C (fun mm as h r a1 a2 a3 => rz_sound hT l s.heap.size b D ca d mm as h r a1 a2 a3) (show d + 1 ≤ 2048 by omega) (show 40 * d + 40 ≤ 84000 by omega) hme (by
      intro i pc st H locs slots la hdec hret hP2 hV hlen hsl
      rcases hret with ⟨-, hk, -⟩ | ⟨rfl, hk, x, h01, hv, rfl⟩ | ⟨-, hk, -⟩ | ⟨-, hk, -⟩ | ⟨-, hk, -⟩
      · rw [law_mk] at hk; cases hk
      · cases hv
        refine va_forget (fun q hq => hV.2.2 q hq) ?_
        refine W.widen (k := 600000) (n := 7302250) law_bd.1 (Nat.le_trans hsl law_bd.2) ?_
        exact lw_ret hx hb hr hlocks hdec
      · rw [law_mk] at hk; cases hk
      · rw [law_mk] at hk; cases hk
      · rw [law_mk] at hk; cases hk) (hrows 273 (by omega)) (fun o ho => hzM 273 o (by omega) ho) n _ hn
  have hl := lv_entry ([.ref b]) (n := 4) (Nat.le_of_ble_eq_true rfl)
  rw [lg_entry_eq]
  have w2 := w s.heap [] 0 0 _ ⟨by rw [law_ml]; exact rz_LR_entry (as := [rz_s]) (n := 4) rfl (by decide) hl, by rw [law_ml]; rfl, fun k q hq => by simp [tW, h00] at hq, va_S.rf, rfl, by show 0 + (mB 273).1 = (mB 273).1; omega, by show 0 + (mB 273).2 ≤ (mB 273).2; omega⟩
  rw [show rpc 273 (0, mB 273, [some rz_s, none, none, none], ([] : List rz_V), h00).1 = 0 from law_pc] at w2
  exact w2
