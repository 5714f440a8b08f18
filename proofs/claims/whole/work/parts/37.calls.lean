/-! calls -/
theorem rz_args_spec : ∀ (n : Nat) (acc st as rest : List rz_V), rz_args n acc st = some (as, rest) → ∃ q : List rz_V, st = q ++ rest ∧ as = q.reverse ++ acc ∧ q.length = n
  | 0, acc, st, as, rest, h => by
    cases h
    exact ⟨[], rfl, rfl, rfl⟩
  | n + 1, acc, [], as, rest, h => by cases h
  | n + 1, acc, v :: st, as, rest, h => by
    obtain ⟨q, h1, h2, h3⟩ := rz_args_spec n (v :: acc) st as rest h
    exact ⟨v :: q, by rw [h1]; rfl, by rw [h2]; simp, by simp [h3]⟩
def rz_rv (sz bs rk : Nat) (v : rz_V) : Option Value := match rk with
  | 0 => none
  | _ => some (tV sz bs v)
def rz_Pc (sz bs : Nat) (D : va_G) (ca : Nat → ClassId) (as : List rz_V) (h : rz_H) : Array Value → State → Prop := va_Pc (as.map (tV sz bs)) (fun U => U.heap.size = sz + rz_len h ∧ va_P D kCl (tW sz ca h) U.heap ∧ va_K D kCl (tys ca) U ∧ va_AO (kC 0) U)
def rz_Qc (sz bs : Nat) (D : va_G) (ca : Nat → ClassId) (mm n0 : Nat) (r : rz_Res) : Array Value → State → Outcome → State → Prop := fun _ st oc t => oc = .returned (rz_rv sz bs (mK mm) r.1) ∧ va_P D kCl (tW sz ca r.2) t.heap ∧ rz_len r.2 = n0 + (mB mm).1 ∧ va_F (fun q => sz ≤ q) st t
def rz_ws (mm : Nat) : List Jvm.Cond := Jvm.Cond.code (mY mm) (mC mm) (mL mm) (mR mm) :: lwG
def rz_rm (mm d : Nat) : Room := { frames := d, cells := (mB mm).1, slots := (mB mm).2, locals := 40 * d }
def rz_Ct (l : Launch) (sz bs : Nat) (D : va_G) (ca : Nat → ClassId) (d mm : Nat) (as : List rz_V) (h : rz_H) (r : rz_Res) : Prop := Met l (mY mm) (rz_ws mm) (rz_rm mm d) (rz_Pc sz bs D ca as h) (rz_Qc sz bs D ca mm (rz_len h) r) (mB mm).1 (mB mm).2 (fun q => sz ≤ q)
theorem rz_blind (sz bs : Nat) (D : va_G) (ca : Nat → ClassId) (as : List rz_V) (h : rz_H) : FrameBlind (rz_Pc sz bs D ca as h) := by
  intro a U g mk q
  obtain ⟨q0, q1, qP, qK, qA⟩ := q
  exact ⟨q0, q1, qP, va_K.moved (u := U) (U := U.calling g mk a) (Vm.Alike.refl U.vm) qK, va_AO.moved (u := U) (U := U.calling g mk a) (Vm.Alike.refl U.vm) qA⟩
theorem rz_ws_good {mm pcd : Nat} (h : rz_at pcd (.code (mY mm) (mC mm) (mL mm) (mR mm)) = true) : ∀ w ∈ rz_ws mm, w ∈ lwG := by
  intro w hw
  rcases List.mem_cons.mp hw with rfl | hw
  · exact rz_at_mem h
  · exact hw
theorem rz_fin {p : Program} {l : Launch} {e : Env} {R : Room} {s : State} {m : MethodId} {args : Array Value} {below : List Frame} {meth : Method} {c : Code} {Q : State → Prop} {M sz bs mcl msl : Nat} {D : va_G} {ca : Nat → ClassId} {k : rz_St → Option rz_Res} {r : rz_Res} {H : Heap} {locs : List Loc} {cells slots : Nat} {la : Array Slot} {pc o mm : Nat} {b : Nat × Nat} {ls : List (Option rz_V)} {st : List rz_V} {h : rz_H} {q : rz_Res} {st0 : List Value} {A0 : Array Value} (IH : ∀ S, k S = some r → rz_Wt p l e R s m args below meth c Q M sz bs mcl msl D ca S) (hr : rz_Rel s M sz bs mcl msl D ca b ls h H locs cells slots la) (hb1 : (mB mm).1 ≤ b.1) (hb2 : (mB mm).2 ≤ b.2) (hrun : va_Run p l e R s m args below meth c H locs cells slots (mB mm).1 (mB mm).2 (F0 m pc la st0) (st.map (tV sz bs)) (rz_Qc sz bs D ca mm (rz_len h) q A0) (fun q => sz ≤ q)) (hn : rpc M o = pc + 3) (hbk : rz_back k (mK mm) (o, (b.1 - (mB mm).1, b.2 - (mB mm).2), ls, st, h) (some q) = some r) : W p l e R s m args below meth c H locs cells slots Q (F0 m pc la st0) := by
  obtain ⟨r1, r2, r3, r4, r5, r6, r7⟩ := hr
  intro T hT X
  obtain ⟨v, st₀, t, T', L, h0, X', hL, e1, e2, ⟨hv, hP, hlen, hz, hk⟩, stp⟩ := hrun T hT X
  rw [h0] at hz hk
  have hV : va_S (fun q => sz ≤ q) s.heap T'.heap (locs ++ L) := ⟨Nat.le_trans r4.1 (by rw [e1]; exact hz), fun q h1 h2 => by rw [e1, hk q (Nat.lt_of_lt_of_le h1 r4.1) h2]; exact r4.2.1 q h1 h2, fun q hq => by
      rcases List.mem_append.mp hq with hq | hq
      · exact r4.2.2 q hq
      · exact hL q hq⟩
  rw [← e1] at hP
  have key : ∀ st2 : List rz_V, st2.map (tV sz bs) = v.toList ++ st.map (tV sz bs) → k (o, (b.1 - (mB mm).1, b.2 - (mB mm).2), ls, st2, q.2) = some r → ∃ t, Steps p.tables e below (T.setTop (F0 m pc la st0)) t ∧ Q t := by
    intro st2 hst hk2
    have w := rz_go (IH _ hk2) hn (H := T'.heap) (locs := locs ++ L) (cells := cells + (mB mm).1) (slots := slots + (mB mm).2) (la := la) ⟨r1, r2, hP, hV, by show s.heap.size + (cells + (mB mm).1) = sz + rz_len q.2; omega, by show cells + (mB mm).1 + (b.1 - (mB mm).1) = mcl; omega, by show slots + (mB mm).2 + (b.2 - (mB mm).2) ≤ msl; omega⟩
    rw [show List.map (tV sz bs) (o, (b.1 - (mB mm).1, b.2 - (mB mm).2), ls, st2, q.2).2.2.2.1 = v.toList ++ st.map (tV sz bs) from hst] at w
    obtain ⟨t2, a1, b1⟩ := w T' rfl X'
    exact ⟨t2, stp t2 a1, b1⟩
  cases hv2 : mK mm with
  | zero =>
    rw [hv2] at hbk hv
    cases hv
    exact key st rfl hbk
  | succ n =>
    rw [hv2] at hbk hv
    cases hv
    obtain ⟨qv, qh⟩ := q
    rcases n with _ | _ | _ | _ | n
    · rcases qv with x | x | x | x <;> first | exact (nomatch (show (none : Option rz_Res) = some r from hbk)) | exact key (_ :: st) rfl hbk
    · rcases qv with x | x | x | x <;> first | exact (nomatch (show (none : Option rz_Res) = some r from hbk)) | exact key (_ :: st) rfl hbk
    · rcases qv with x | x | x | x <;> first | exact (nomatch (show (none : Option rz_Res) = some r from hbk)) | exact key (_ :: st) rfl hbk
    · rcases qv with x | x | x | x <;> first | exact (nomatch (show (none : Option rz_Res) = some r from hbk)) | exact key (_ :: st) rfl hbk
    · exact (nomatch (show (none : Option rz_Res) = some r from hbk))
def ck_me (M : Nat) : Bool := Nat.ble (mA M) (mL M) && (Nat.ble (mL M) 20 && (plainFor (mY M) && (decide ((mY M).cls ≠ "java/lang/invoke/MethodHandle") && (decide ((mY M).cls ≠ "java/lang/invoke/VarHandle") && (match mK M, mR M with
  | 0, none => true
  | 1, some .int => true
  | 4, some .boolean => true
  | 3, some .long => true
  | 2, some (.object _) => true
  | 2, some (.array _) => true
  | _, _ => false)))))
theorem ckar {desc : String} {n : Nat} (h : ck_ar desc n = true) : (parseMethodDescriptor desc).map (fun d => d.parameters.length) = some n := of_decide_eq_true h
theorem rz_cl {sz : Nat} {D : va_G} {ca : Nat → ClassId} {h : rz_H} {H : Heap} {a cc : Nat} (hP : va_P D kCl (tW sz ca h) H) (hs : hS h a = some (.inl cc)) : cc < 11 := by
  obtain ⟨q, h1, -⟩ := hP a _ (tW_at hs)
  exact (List.getElem?_eq_some_iff.mp h1).1
theorem ck_me_mh (hme : ∀ M, M < 279 → M ≠ 274 → ck_me M = true) {M : Nat} (h : M < 279) (h2 : M ≠ 274) : (mY M).cls ≠ "java/lang/invoke/MethodHandle" ∧ (mY M).cls ≠ "java/lang/invoke/VarHandle" ∧ mL M ≤ 20 := by
  have h1 := hme M h h2
  obtain ⟨-, h1⟩ := ba h1
  obtain ⟨h3, h1⟩ := ba h1
  obtain ⟨-, h1⟩ := ba h1
  obtain ⟨h4, h1⟩ := ba h1
  obtain ⟨h5, -⟩ := ba h1
  exact ⟨of_decide_eq_true h4, of_decide_eq_true h5, Nat.le_of_ble_eq_true h3⟩
theorem ck_sels_at {x y : MethodName} : ∀ (cs qs : List Nat) {c : Nat}, ck_sels x y cs qs = true → c ∈ cs → c < 11 ∧ Jvm.Cond.selects (kC c) x y ∈ lwG
  | [], _, _, _, hc => by cases hc
  | c0 :: cs, [], _, h, _ => by cases h
  | c0 :: cs, q :: qs, c, h, hc => by
    obtain ⟨h1, h2⟩ := ba h
    obtain ⟨h3, h4⟩ := ba h2
    rcases List.mem_cons.mp hc with rfl | hc
    · exact ⟨Nat.blt_eq.mp h1, rz_at_mem h3⟩
    · exact ck_sels_at cs qs h4 hc
theorem rs_inv {p : Program} {l : Launch} {e : Env} {R : Room} {s : State} {m : MethodId} {args : Array Value} {below : List Frame} {meth : Method} {c : Code} {Q : State → Prop} {M sz bs mcl msl : Nat} {D : va_G} {ca : Nat → ClassId} {scr : Option (Nat × (Nat → Int32))} {o pc mm n d : Nat} {cs : List Nat} {b : Nat × Nat} {ls : List (Option rz_V)} {st : List rz_V} {h : rz_H} {cf : rz_C} {k : rz_St → Option rz_Res} {r : rz_Res} {H : Heap} {locs : List Loc} {cells slots : Nat} {la : Array Slot} (C : rz_Cx p s m args meth c R M sz bs mcl msl D ca scr) (IH : ∀ S, k S = some r → rz_Wt p l e R s m args below meth c Q M sz bs mcl msl D ca S) (hr : rz_Rel s M sz bs mcl msl D ca b ls h H locs cells slots la) (hcf : ∀ (mm : Nat) (as : List rz_V) (h : rz_H) (r : rz_Res), mm < 279 → mm ≠ 274 → cf mm as h = some r → rz_Ct l sz bs D ca d mm as h r) (hRf : d + 1 ≤ R.frames) (hRl : 40 * d + 40 ≤ R.locals) (hmm : mm < 279) (hm2 : mm ≠ 274) (hn : rpc M (o + 1) = pc + 3) (hap : rz_ap cf k (rz_inv mT (mm :: n :: cs) (o + 1) b ls st h) = some r) (hrun : ∀ (cc a : Nat) (As : List Value) (as : List rz_V) (rest : List Value), cc ∈ cs → hS h a = some (.inl cc) → As = as.map (tV sz bs) → as.length = n → (rest.map fun v => v.category).sum ≤ 8 → cells + (mB mm).1 ≤ R.cells → slots + (mB mm).2 ≤ R.slots → ∀ q : rz_Res, rz_Ct l sz bs D ca d mm (rz_r (some a) :: as) h q → H.size = sz + rz_len h → va_Run p l e R s m args below meth c H locs cells slots (mB mm).1 (mB mm).2 (F0 m pc la (As.reverse ++ .ref (sz + a) :: rest)) rest (rz_Qc sz bs D ca mm (rz_len h) q (Value.ref (sz + a) :: As).toArray) (fun q => sz ≤ q)) : W p l e R s m args below meth c H locs cells slots Q (F0 m pc la (st.map (tV sz bs))) := by
  obtain ⟨hx, hb, hml, hown, hts, hK, hAO, hnm, hsz, hmc, hms, hfr, hlo, hscr⟩ := C
  have hr0 := hr
  obtain ⟨r1, r2, r3, r4, r5, r6, r7⟩ := hr
  unfold rz_inv at hap
  dsimp only at hap
  rcases hq : rz_args n [] st with _ | ⟨as, st1⟩ <;> rw [hq] at hap
  · exact (nomatch (show (none : Option rz_Res) = some r from hap))
  rcases st1 with _ | ⟨x | (_ | a) | x | x, st1⟩ <;> try exact (nomatch (show (none : Option rz_Res) = some r from hap))
  obtain ⟨g, hap⟩ := rz_bn hap
  obtain ⟨g1, g⟩ := ba g
  obtain ⟨g2, g⟩ := ba g
  obtain ⟨g3, g4⟩ := ba g
  have g1 := Nat.le_of_ble_eq_true g1
  have g2 := Nat.le_of_ble_eq_true g2
  have g3 := Nat.le_of_ble_eq_true g3
  change (mB mm).1 ≤ b.1 at g1
  change (mB mm).2 ≤ b.2 at g2
  obtain ⟨cc, hs, hcs⟩ := okO_spec g4
  obtain ⟨pp, e1, e2, e3⟩ := rz_args_spec n [] st as _ hq
  rcases hc : cf mm (rz_r (some a) :: as) h with _ | q
  · rw [show cf mm (rz_r (some a) :: as) (o + 1, (b.1 - (mT.1 mm).1, b.2 - (mT.1 mm).2), ls, st1, h).2.2.2.2 = none from hc] at hap
    exfalso
    revert hap
    show rz_back k (mK mm) _ none ≠ some r
    unfold rz_back
    split <;> exact fun q => (by cases q)
  have hCt := hcf mm _ h q hmm hm2 hc
  rw [show cf mm (rz_r (some a) :: as) (o + 1, (b.1 - (mT.1 mm).1, b.2 - (mT.1 mm).2), ls, st1, h).2.2.2.2 = some q from hc] at hap
  refine W_ub (fun hub => ?_)
  have hz := rz_hsz hsz r3 r4 r5 hub
  have hR := hrun cc a (as.map (tV sz bs)) as (st1.map (tV sz bs)) hcs hs rfl (by rw [e2]; simp [e3]) (by rw [rz_cats_eq]; exact g3) (by omega) (by omega) q hCt hz
  have es : List.map (tV sz bs) st = (as.map (tV sz bs)).reverse ++ .ref (sz + a) :: st1.map (tV sz bs) := by
    rw [e1, e2]
    simp [tV, va_rf]
  rw [es]
  exact rz_fin IH hr0 g1 g2 hR hn hap
theorem ckcal {mm n pi pcd pin : Nat} (h : ck_cal mm n pi pcd pin = true) : mm < 279 ∧ mm ≠ 274 ∧ rz_at pcd (.code (mY mm) (mC mm) (mL mm) (mR mm)) = true ∧ Jvm.Cond.instanceMethod (mY mm) ∈ lwG ∧ Jvm.Cond.initialized (mY mm).cls ∈ lwG ∧ (parseMethodDescriptor (mY mm).desc).map (fun d => d.parameters.length) = some n := by
  obtain ⟨k1, h⟩ := ba h
  obtain ⟨k0, k1⟩ := ba k1
  obtain ⟨k2, h⟩ := ba h
  obtain ⟨k3, h⟩ := ba h
  obtain ⟨k4, k5⟩ := ba h
  refine ⟨Nat.blt_eq.mp k0, ?_, k2, rz_at_mem k3, rz_at_mem k4, ckar k5⟩
  intro e
  subst e
  cases k1
theorem ckcalS {mm n pi pcd pin : Nat} (h : ck_calS mm n pi pcd pin = true) : mm < 279 ∧ mm ≠ 274 ∧ rz_at pcd (.code (mY mm) (mC mm) (mL mm) (mR mm)) = true ∧ Jvm.Cond.static (mY mm) ∈ lwG ∧ Jvm.Cond.initialized (mY mm).cls ∈ lwG ∧ (parseMethodDescriptor (mY mm).desc).map (fun d => d.parameters.length) = some n := by
  obtain ⟨k1, h⟩ := ba h
  obtain ⟨k0, k1⟩ := ba k1
  obtain ⟨k2, h⟩ := ba h
  obtain ⟨k3, h⟩ := ba h
  obtain ⟨k4, k5⟩ := ba h
  refine ⟨Nat.blt_eq.mp k0, ?_, k2, rz_at_mem k3, rz_at_mem k4, ckar k5⟩
  intro e
  subst e
  cases k1
theorem rs_invokevirtual {p : Program} {l : Launch} {e : Env} {R : Room} {s : State} {m : MethodId} {args : Array Value} {below : List Frame} {meth : Method} {c : Code} {Q : State → Prop} {M sz bs mcl msl : Nat} {D : va_G} {ca : Nat → ClassId} {scr : Option (Nat × (Nat → Int32))} {rk o pc len : Nat} {im : Int32} {aux ps : List Nat} {b : Nat × Nat} {ls : List (Option rz_V)} {st : List rz_V} {h : rz_H} {cf : rz_C} {k : rz_St → Option rz_Res} {r : rz_Res} {H : Heap} {locs : List Loc} {cells slots : Nat} {la : Array Slot} {idx d : Nat} (C : rz_Cx p s m args meth c R M sz bs mcl msl D ca scr) (IH : ∀ S, k S = some r → rz_Wt p l e R s m args below meth c Q M sz bs mcl msl D ca S) (hr : rz_Rel s M sz bs mcl msl D ca b ls h H locs cells slots la) (hcf : ∀ (mm : Nat) (as : List rz_V) (h : rz_H) (r : rz_Res), mm < 279 → mm ≠ 274 → cf mm as h = some r → rz_Ct l sz bs D ca d mm as h r) (hRf : d + 1 ≤ R.frames) (hRl : 40 * d + 40 ≤ R.locals) (hme : ∀ M, M < 279 → M ≠ 274 → ck_me M = true) (hdec : decode (mC M) pc = .ok (.invokevirtual idx, len)) (hck : rz_ck M o pc (.invokevirtual idx) len im aux ps = true) (hap : rz_ap cf k (rz_do mT rk scr (.invokevirtual idx) im aux o b ls st h) = some r) : W p l e R s m args below meth c H locs cells slots Q (F0 m pc la (st.map (tV sz bs))) := by
  obtain ⟨hx, hb, hml, hown, hts, hK, hAO, hnm, hsz, hmc, hms, hfr, hlo, hscr⟩ := id C
  obtain ⟨h1, h2⟩ := ba hck
  obtain ⟨rfl, hn⟩ := ckn h1
  rcases aux with _ | ⟨mm, _ | ⟨n, cs⟩⟩ <;> try exact (nomatch (show (none : Option rz_Res) = some r from hap))
  have hr0 := hr
  obtain ⟨r1, r2, r3, r4, r5, r6, r7⟩ := hr
  change ck_V (mY M).cls idx mm n cs ps = true at h2
  unfold ck_V at h2
  split at h2
  · rename_i pl pi pcd pin q
    rcases cs with _ | ⟨c0, _ | ⟨c1, cs⟩⟩ <;> try exact (nomatch (show false = true from h2))
    obtain ⟨hcal, h3⟩ := ba h2
    obtain ⟨hmm, hm2, kc, ki, kn, kar⟩ := ckcal hcal
    obtain ⟨kl, h3⟩ := ba h3
    obtain ⟨-, h3⟩ := ba h3
    obtain ⟨ky, ks⟩ := ba h3
    have ky := of_decide_eq_true ky
    have hmh := ck_me_mh hme hmm hm2
    refine rs_inv C IH hr0 hcf hRf hRl hmm hm2 hn hap ?_
    intro cc a As as rest hcs hs eA hlen hcat hc1 hc2 q hCt hz
    have e0 : cc = c0 := by simpa using hcs
    subst e0
    subst eA
    have hc : cc < 11 := (rz_cl r3 hs)
    refine va_runV ⟨hx, hb, hml, hown, hts⟩ hCt (cwV n hts (lwG_good ?_) rfl rfl rfl ⟨ky, hmh.1, hmh.2.1, kar⟩ ⟨hRf, by show 8 + (mL mm + 11) + 40 * d ≤ R.locals; have := hmh.2.2; omega⟩) ⟨rz_blind sz bs D ca _ h, va_recv hK r3 (kCl_get cc hc) (tW_at hs), fun U hU hW => ⟨rfl, by rw [hU]; exact hz, by rw [hU]; exact r3, va_K.moved hW.alike hK, va_AO.moved hW.alike hAO⟩⟩ rfl (by simp [hlen]) r1.1 rfl (lv_room hcat) hdec ⟨hc1, hc2⟩
    intro w hw
    rcases List.mem_append.mp hw with hw | hw
    · simp only [List.mem_cons, List.not_mem_nil, or_false] at hw
      rcases hw with rfl | rfl | rfl | rfl
      · exact rz_at_mem kl
      · exact ki
      · exact rz_at_mem ks
      · rw [← ky]; exact kn
    · exact rz_ws_good kc w hw
  · rename_i pl pi pcd pin px qs hno
    obtain ⟨hcal, h3⟩ := ba h2
    obtain ⟨hmm, hm2, kc, ki, kn, kar⟩ := ckcal hcal
    have hmh := ck_me_mh hme hmm hm2
    split at h3 <;> try exact (nomatch (show false = true from h3))
    rename_i ow ix x htb
    obtain ⟨kl, h3⟩ := ba h3
    obtain ⟨e1, h3⟩ := ba h3
    obtain ⟨e2, h3⟩ := ba h3
    obtain ⟨e3, h3⟩ := ba h3
    obtain ⟨e4, h3⟩ := ba h3
    obtain ⟨ksm, ksl⟩ := ba h3
    have e1 := of_decide_eq_true e1
    have e2 := Nat.eq_of_beq_eq_true e2
    have e3 := of_decide_eq_true e3
    have e4 := of_decide_eq_true e4
    subst e1
    subst e2
    refine rs_inv C IH hr0 hcf hRf hRl hmm hm2 hn hap ?_
    intro cc a As as rest hcs hs eA hlen hcat hc1 hc2 q hCt hz
    subst eA
    obtain ⟨hc, ksel⟩ := ck_sels_at _ _ ksl hcs
    refine va_runU (C := kC cc) (owner := (mY mm).cls) (x := x) ⟨hx, hb, hml, hown, hts⟩ hCt (va_cwU n hts (lwG_good ?_) rfl rfl rfl (by rw [e3, e4]) ⟨hmh.1, hmh.2.1, by rw [e4]; exact kar⟩ ⟨hRf, by show 8 + (mL mm + 11) + 40 * d ≤ R.locals; have := hmh.2.2; omega⟩) ⟨rz_blind sz bs D ca _ h, va_recv hK r3 (kCl_get cc hc) (tW_at hs), fun U hU hW => ⟨rfl, by rw [hU]; exact hz, by rw [hU]; exact r3, va_K.moved hW.alike hK, va_AO.moved hW.alike hAO⟩⟩ rfl (by simp [hlen]) r1.1 rfl (lv_room hcat) hdec ⟨hc1, hc2⟩
    intro w hw
    rcases List.mem_append.mp hw with hw | hw
    · simp only [List.mem_cons, List.not_mem_nil, or_false] at hw
      rcases hw with rfl | rfl | rfl | rfl | rfl
      · exact rz_at_mem kl
      · exact rz_at_mem ksm
      · exact ksel
      · exact ki
      · exact kn
    · exact rz_ws_good kc w hw
  · exact (nomatch (show false = true from h2))
theorem rs_invokespecial {p : Program} {l : Launch} {e : Env} {R : Room} {s : State} {m : MethodId} {args : Array Value} {below : List Frame} {meth : Method} {c : Code} {Q : State → Prop} {M sz bs mcl msl : Nat} {D : va_G} {ca : Nat → ClassId} {scr : Option (Nat × (Nat → Int32))} {rk o pc len : Nat} {im : Int32} {aux ps : List Nat} {b : Nat × Nat} {ls : List (Option rz_V)} {st : List rz_V} {h : rz_H} {cf : rz_C} {k : rz_St → Option rz_Res} {r : rz_Res} {H : Heap} {locs : List Loc} {cells slots : Nat} {la : Array Slot} {idx d : Nat} (C : rz_Cx p s m args meth c R M sz bs mcl msl D ca scr) (IH : ∀ S, k S = some r → rz_Wt p l e R s m args below meth c Q M sz bs mcl msl D ca S) (hr : rz_Rel s M sz bs mcl msl D ca b ls h H locs cells slots la) (hcf : ∀ (mm : Nat) (as : List rz_V) (h : rz_H) (r : rz_Res), mm < 279 → mm ≠ 274 → cf mm as h = some r → rz_Ct l sz bs D ca d mm as h r) (hRf : d + 1 ≤ R.frames) (hRl : 40 * d + 40 ≤ R.locals) (hme : ∀ M, M < 279 → M ≠ 274 → ck_me M = true) (hdec : decode (mC M) pc = .ok (.invokespecial idx, len)) (hck : rz_ck M o pc (.invokespecial idx) len im aux ps = true) (hap : rz_ap cf k (rz_do mT rk scr (.invokespecial idx) im aux o b ls st h) = some r) : W p l e R s m args below meth c H locs cells slots Q (F0 m pc la (st.map (tV sz bs))) := by
  obtain ⟨hx, hb, hml, hown, hts, hK, hAO, hnm, hsz, hmc, hms, hfr, hlo, hscr⟩ := id C
  obtain ⟨h1, h2⟩ := ba hck
  obtain ⟨rfl, hn⟩ := ckn h1
  have hr0 := hr
  obtain ⟨r1, r2, r3, r4, r5, r6, r7⟩ := hr
  rcases aux with _ | ⟨mm, _ | ⟨n, cs⟩⟩
  · rcases ps with _ | ⟨p1, _ | ⟨p2, _ | ⟨p3, _ | ⟨p4, ps⟩⟩⟩⟩ <;> try exact (nomatch (show false = true from h2))
    rcases st with _ | ⟨x | (_ | a) | x | x, st⟩ <;> try exact (nomatch (show (none : Option rz_Res) = some r from hap))
    obtain ⟨k1, h3⟩ := ba h2
    obtain ⟨k2, k3⟩ := ba h3
    obtain ⟨g3, hap⟩ := rz_bn hap
    have g3 := Nat.le_of_ble_eq_true g3
    have hroom := lv_room (m := m) (pc := pc) (ls := la) (rest := st.map (tV sz bs)) (st := st.map (tV sz bs)) (by rw [rz_cats_eq]; exact g3)
    exact W.objInit hx hb hown (hts _ (rz_at_mem k1)) (hts _ (rz_at_mem k2)) (hts _ (rz_at_mem k3)) rfl (r1.1.trans hml.symm) rfl hdec hfr (by have h9 : 2 * (F0 m pc la (List.map (tV sz bs) (Sum.inr (Sum.inl (some a)) :: st))).monitorRoom + ((st.map (tV sz bs)).map fun v => v.category).sum ≤ 8 := hroom; omega) (rz_go (IH _ hap) hn hr0)
  · exact (nomatch (show false = true from h2))
  · change ck_I (mY M).cls idx mm n cs ps = true at h2
    rcases ps with _ | ⟨pl, _ | ⟨pi, _ | ⟨pcd, _ | ⟨pin, _ | ⟨p5, ps⟩⟩⟩⟩⟩ <;> try exact (nomatch (show false = true from h2))
    obtain ⟨hcal, h3⟩ := ba h2
    obtain ⟨hmm, hm2, kc, ki, kn, kar⟩ := ckcal hcal
    obtain ⟨kl, h3⟩ := ba h3
    obtain ⟨ky, h3⟩ := ba h3
    obtain ⟨kr, kcs⟩ := ba h3
    have ky := of_decide_eq_true ky
    have kr := of_decide_eq_true kr
    have hmh := ck_me_mh hme hmm hm2
    refine rs_inv C IH hr0 hcf hRf hRl hmm hm2 hn hap ?_
    intro cc a As as rest hcs hs eA hlen hcat hc1 hc2 q hCt hz
    subst eA
    exact va_runI ⟨hx, hb, hml, hown, hts⟩ hCt (cwI n hts (lwG_good (rz_ws_good kc)) (by unfold rz_ws; rw [kr]) rfl rfl (hts _ kn) (hts _ (rz_at_mem kl)) (hts _ ki) ky ⟨hmh.1, hmh.2.1, kar⟩ ⟨hRf, by show 8 + (mL mm + 11) + 40 * d ≤ R.locals; have := hmh.2.2; omega⟩) ⟨rz_blind sz bs D ca _ h, fun U hU hW => ⟨rfl, by rw [hU]; exact hz, by rw [hU]; exact r3, va_K.moved hW.alike hK, va_AO.moved hW.alike hAO⟩⟩ rfl (by simp [hlen]) r1.1 rfl (lv_room hcat) hdec ⟨hc1, hc2⟩
theorem rs_invokestatic {p : Program} {l : Launch} {e : Env} {R : Room} {s : State} {m : MethodId} {args : Array Value} {below : List Frame} {meth : Method} {c : Code} {Q : State → Prop} {M sz bs mcl msl : Nat} {D : va_G} {ca : Nat → ClassId} {scr : Option (Nat × (Nat → Int32))} {rk o pc len : Nat} {im : Int32} {aux ps : List Nat} {b : Nat × Nat} {ls : List (Option rz_V)} {st : List rz_V} {h : rz_H} {cf : rz_C} {k : rz_St → Option rz_Res} {r : rz_Res} {H : Heap} {locs : List Loc} {cells slots : Nat} {la : Array Slot} {idx d : Nat} (C : rz_Cx p s m args meth c R M sz bs mcl msl D ca scr) (IH : ∀ S, k S = some r → rz_Wt p l e R s m args below meth c Q M sz bs mcl msl D ca S) (hr : rz_Rel s M sz bs mcl msl D ca b ls h H locs cells slots la) (hcf : ∀ (mm : Nat) (as : List rz_V) (h : rz_H) (r : rz_Res), mm < 279 → mm ≠ 274 → cf mm as h = some r → rz_Ct l sz bs D ca d mm as h r) (hRf : d + 1 ≤ R.frames) (hRl : 40 * d + 40 ≤ R.locals) (hme : ∀ M, M < 279 → M ≠ 274 → ck_me M = true) (hdec : decode (mC M) pc = .ok (.invokestatic idx, len)) (hck : rz_ck M o pc (.invokestatic idx) len im aux ps = true) (hap : rz_ap cf k (rz_do mT rk scr (.invokestatic idx) im aux o b ls st h) = some r) : W p l e R s m args below meth c H locs cells slots Q (F0 m pc la (st.map (tV sz bs))) := by
  obtain ⟨hx, hb, hml, hown, hts, hK, hAO, hnm, hsz, hmc, hms, hfr, hlo, hscr⟩ := id C
  obtain ⟨h1, h2⟩ := ba hck
  obtain ⟨rfl, hn⟩ := ckn h1
  rcases aux with _ | ⟨mm, _ | ⟨n, cs⟩⟩ <;> try exact (nomatch (show (none : Option rz_Res) = some r from hap))
  have hr0 := hr
  obtain ⟨r1, r2, r3, r4, r5, r6, r7⟩ := hr
  change rz_ap cf k (rz_invS mT (mm :: n :: cs) (o + 1) b ls st h) = some r at hap
  unfold rz_invS at hap
  dsimp only at hap
  rcases hq : rz_args n [] st with _ | ⟨as, st1⟩ <;> rw [hq] at hap
  · exact (nomatch (show (none : Option rz_Res) = some r from hap))
  obtain ⟨g, hap⟩ := rz_bn hap
  obtain ⟨g1, g⟩ := ba g
  obtain ⟨g2, g3⟩ := ba g
  have g1 := Nat.le_of_ble_eq_true g1
  have g2 := Nat.le_of_ble_eq_true g2
  have g3 := Nat.le_of_ble_eq_true g3
  change (mB mm).1 ≤ b.1 at g1
  change (mB mm).2 ≤ b.2 at g2
  obtain ⟨pp, e1, e2, e3⟩ := rz_args_spec n [] st as _ hq
  have hcalS : ∃ pi pcd pin, ck_calS mm n pi pcd pin = true := by
    change ck_S (mY M).cls idx mm n ps = true at h2
    unfold ck_S at h2
    split at h2
    · exact ⟨_, _, _, (ba h2).1⟩
    · exact ⟨_, _, _, (ba h2).1⟩
    · cases h2
  obtain ⟨pi, pcd, pin, hcal⟩ := hcalS
  obtain ⟨hmm, hm2, kc, ki, kn, kar⟩ := ckcalS hcal
  have hmh := ck_me_mh hme hmm hm2
  rcases hc : cf mm as h with _ | q
  · rw [show cf mm as (o + 1, (b.1 - (mT.1 mm).1, b.2 - (mT.1 mm).2), ls, st1, h).2.2.2.2 = none from hc] at hap
    exfalso
    revert hap
    show rz_back k (mK mm) _ none ≠ some r
    unfold rz_back
    split <;> exact fun q => (by cases q)
  have hCt := hcf mm _ h q hmm hm2 hc
  rw [show cf mm as (o + 1, (b.1 - (mT.1 mm).1, b.2 - (mT.1 mm).2), ls, st1, h).2.2.2.2 = some q from hc] at hap
  refine W_ub (fun hub => ?_)
  have hz := rz_hsz hsz r3 r4 r5 hub
  have es : List.map (tV sz bs) st = (as.map (tV sz bs)).reverse ++ st1.map (tV sz bs) := by
    rw [e1, e2]
    simp
  have hlen : as.length = n := by rw [e2]; simp [e3]
  have hcat : ((st1.map (tV sz bs)).map fun v => v.category).sum ≤ 8 := by rw [rz_cats_eq]; exact g3
  change ck_S (mY M).cls idx mm n ps = true at h2
  unfold ck_S at h2
  split at h2
  · obtain ⟨-, kl⟩ := ba h2
    have hR : va_Run p l e R s m args below meth c H locs cells slots (mB mm).1 (mB mm).2 (F0 m pc la ((as.map (tV sz bs)).reverse ++ st1.map (tV sz bs))) (st1.map (tV sz bs)) (rz_Qc sz bs D ca mm (rz_len h) q (as.map (tV sz bs)).toArray) (fun q => sz ≤ q) := by
      refine va_runS ⟨hx, hb, hml, hown, hts⟩ hCt (va_cwS n hts (lwG_good ?_) rfl rfl rfl ⟨hmh.1, hmh.2.1, kar⟩ ⟨hRf, by show 8 + (mL mm + 11) + 40 * d ≤ R.locals; have := hmh.2.2; omega⟩) ⟨rz_blind sz bs D ca _ h, fun U hU hW => ⟨rfl, by rw [hU]; exact hz, by rw [hU]; exact r3, va_K.moved hW.alike hK, va_AO.moved hW.alike hAO⟩⟩ rfl (by simp [hlen]) r1.1 rfl (lv_room hcat) hdec ⟨by show cells + (mB mm).1 ≤ R.cells; omega, by show slots + (mB mm).2 ≤ R.slots; omega⟩
      intro w hw
      rcases List.mem_append.mp hw with hw | hw
      · simp only [List.mem_cons, List.not_mem_nil, or_false] at hw
        rcases hw with rfl | rfl | rfl
        · exact rz_at_mem kl
        · exact ki
        · exact kn
      · exact rz_ws_good kc w hw
    rw [es]
    exact rz_fin IH hr0 g1 g2 hR hn hap
  · obtain ⟨-, h3⟩ := ba h2
    split at h3 <;> try exact (nomatch (show false = true from h3))
    rename_i ow ix x htb
    obtain ⟨kl, h3⟩ := ba h3
    obtain ⟨f1, h3⟩ := ba h3
    obtain ⟨f2, h3⟩ := ba h3
    obtain ⟨f3, h3⟩ := ba h3
    obtain ⟨f4, ksm⟩ := ba h3
    have f1 := of_decide_eq_true f1
    have f2 := Nat.eq_of_beq_eq_true f2
    have f3 := of_decide_eq_true f3
    have f4 := of_decide_eq_true f4
    subst f1
    subst f2
    have hR : va_Run p l e R s m args below meth c H locs cells slots (mB mm).1 (mB mm).2 (F0 m pc la ((as.map (tV sz bs)).reverse ++ st1.map (tV sz bs))) (st1.map (tV sz bs)) (rz_Qc sz bs D ca mm (rz_len h) q (as.map (tV sz bs)).toArray) (fun q => sz ≤ q) :=
      rz_runSU ⟨hx, hb, hml, hown, hts⟩ hCt (rz_ws_good kc) rfl rfl rfl (hts _ (rz_at_mem kl)) (hts _ (rz_at_mem ksm)) f3 f4 (hts _ ki) (hts _ kn) (hts _ (rz_at_mem kc)) ⟨hmh.1, hmh.2.1, kar⟩ ⟨hRf, by show 8 + (mL mm + 11) + 40 * d ≤ R.locals; have := hmh.2.2; omega⟩ ⟨rz_blind sz bs D ca _ h, fun U hU hW => ⟨rfl, by rw [hU]; exact hz, by rw [hU]; exact r3, va_K.moved hW.alike hK, va_AO.moved hW.alike hAO⟩⟩ rfl (by simp [hlen]) r1.1 rfl (lv_room hcat) hdec ⟨by show cells + (mB mm).1 ≤ R.cells; omega, by show slots + (mB mm).2 ≤ R.slots; omega⟩
    rw [es]
    exact rz_fin IH hr0 g1 g2 hR hn hap
  · cases h2
