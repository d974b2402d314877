theorem zk_147 : Cond.classLink RX11 147 xNS ∈ zG := zg5 53 rfl rfl
theorem zi_NS : Cond.initialized xNS ∈ zG := zg1 23 rfl rfl
theorem zk_L13 : Cond.classLink RL 13 xNS ∈ zG := zg5 48 rfl rfl
section HI
variable {σ σ' : zT} {tx : Nat × (Nat → Nat)} {bd : Nat × (Nat → Nat) × (Nat → Nat)} {sk : Nat × (Nat → Nat)} {tw : Nat × (Nat → Nat) × (Nat → Nat)} {xs : List Nat} {ld : Nat × (Nat → Nat)} {pa sh : Nat × (Nat → Nat → Nat)} {ru : Nat × (Nat → Nat) × (Nat → Nat)} {to : Nat × (Nat → Int64)}
/-- what lies above the class doesn't touch it -/
theorem ClsIs.hi {S : List Nat} (h : ClsIs σ tx bd sk tw xs ld pa sh ru to) (hf : FrG S σ σ') (hS : ∀ a ∈ S, 33 ≤ a) : ClsIs σ' tx bd sk tw xs ld pa sh ru to := by
  obtain ⟨⟨kr, k1, k2, k3, k4⟩, h2, h3, h4, h5, h6, ⟨nx, h7⟩, h8, h9, h10⟩ := h
  have no : ∀ a, a < 33 → a ∉ S := fun a q1 q5 => by have := hS a q5; omega
  have hk := zR_cases k1
  refine ⟨⟨kr, k1, by rw [hf.2]; exact k2, by rw [hf.2]; exact k3, k4.fr hf (no _ (by omega))⟩, h2.fr hf (no _ (by decide)), h3.fr hf (no _ (by decide)), h4.fr hf (no _ (by decide)), h5.fr hf (no _ (by decide)), h6.fr hf (no _ (by decide)), ⟨nx, h7.fr hf (fun a ha => no a ?_)⟩, h8.fr hf (fun a ha => no a ?_), h9.fr hf (no _ (by decide)), h10.fr hf (no _ (by decide))⟩
  all_goals (first | (simp only [pastS, List.mem_cons, List.not_mem_nil, or_false] at ha; omega) | (simp only [shelfS, List.mem_cons, List.not_mem_nil, or_false] at ha; omega))
/-- the reference's group stays -/
def Sm33 (σ σ' : zT) : Prop := σ'.1 33 = σ.1 33 ∧ σ'.2.1 33 = σ.2.1 33 ∧ σ'.2.2.1 33 = σ.2.2.1 33
theorem RefIs.sm (h : RefIs σ tx bd sk tw xs ld pa sh ru to) (hf : Sm33 σ σ') : RefIs σ' tx bd sk tw xs ld pa sh ru to := by
  obtain ⟨q1, q2, q3⟩ := hf
  unfold RefIs CodeIs TapeIs CarIs SkyR SortIs NowIs RwIs UndoIs KeptIs HearIs TellIs at h ⊢
  rw [q1, q2, q3]
  exact h
end HI

section XW
variable {E : zE} {R : Room} {cz sz d : Nat} {own : String} {cc : ByteArray} {nL : Nat} {ret : Option FieldType} {P : Option Value → zT → Prop} {Q : List Frame → Array Value → State → State → Prop} {J : Array Value → State → Code → Prop} {σ : zT} {pc : Nat} {lv : List (Nat × Value)} {st : List Value}
/-- a callee that throws, caught by this method's one row -/
theorem gx_callT {y : MethodName} {cb : ByteArray} {mL idx n d2 k : Nat} {rt : Option FieldType} {q : vw_C} {As rest : List Value} (hl : Cond.methodLink own idx y ∈ zG) (hm : zMV y cb mL rt n) (hd : decode cc pc = .ok (.invokevirtual idx, 3))
    (hc : CalT E d2 y cb mL rt (.ref (zA E k 0) :: As) σ) (hq : vwCl[zci k]? = some q) (hy : q.1 = y.cls) (hin : zIn k 0 = true) (hdd : d2 + 1 ≤ R.frames ∧ 48 * d2 + 48 ≤ R.locals) (hcs : cz + 1 ≤ R.cells ∧ sz + 6 ≤ R.slots) (hL : mL ≤ 29) (hn : As.length = n) (hst : zPush (.ref (zA E k 0) :: As) rest = st) (hw : (rest.map fun v => v.category).sum ≤ 8)
    (x : ExceptionTableEntry) (ht : ∀ args s c, J args s c → c.exceptionTable.toList = [x]) (hx : covers x pc = true) (h0 : x.catchType ≠ 0) (hlk : Cond.classLink own x.catchType xNS ∈ zG)
    (kk : ∀ q : Nat, GoG E R (cz + 1) (sz + 6) own cc nL ret Q J σ x.handlerPc lv [.ref q]) : GoG E R cz sz own cc nL ret Q J σ pc lv st := by
  intro l p e s m args below meth c H locs ls C hls hP hS
  obtain ⟨i, hi, hi2⟩ := z_at E σ hin
  have hrecv := va_recv C.1.2.2.2.2.2.2.2.1 hP hq hi2
  rw [hy] at hrecv
  have hcb : CallB R s args own idx y cb mL rt (Cond.code y cb mL rt :: zG) (zRx d2) 1 6 n := callB_of n C.1.2.2.2.2.2.2.1 (z_goodIn hm.1.2.1) rfl rfl rfl (C.1.2.2.2.2.2.2.1 _ hm.1.1) (C.1.2.2.2.2.2.2.1 _ hl) hm.1.2.2 ⟨hdd.1, by show 8 + (mL + 11) + 48 * d2 ≤ R.locals; omega⟩
  have hrun := vx_runV (e := e) (below := below) (meth := meth) (locs := locs) (cells := cz) (slots := sz) (g := F0 m pc ls st) (rest := rest) (Ts := zG) (own := own) (C := y.cls) (b := zA E k 0) (As := As) ⟨C.1.1, C.1.2.1, C.1.2.2.1, C.1.2.2.2.2.2.1, C.1.2.2.2.2.2.2.1⟩ (hc l C.2.2.1) ⟨hcb, C.1.2.2.2.2.2.2.1 _ hm.2.1, C.1.2.2.2.2.2.2.1 _ hm.2.2⟩ ⟨x_blind _, hrecv, fun U hU hW => ⟨rfl, x_preU C hP hS hU hW⟩⟩ rfl hn hls.1 (by
    show st = As.reverse ++ .ref (zA E k 0) :: rest
    rw [← hst, z_push]
    simp) (lv_room hw) hd hcs
  intro T hT X
  rcases hrun T hT X with ⟨v, st₀, t, T', L, h1, X', hL1, e1, e2, hF, stp⟩ | ⟨q9, st₀, t, T', L, E9, ce, h1, X', hL1, e1, e2, ⟨rfl, hP1, hz, hk⟩, hce, hcv, hcl, stp⟩
  · exact absurd hF id
  · rw [h1] at hz hk
    obtain ⟨t2, a1, b1⟩ := kx_catch (own := own) (name := xNS) (E := xNS) (rest := rest) C.1.2.2.2.2.2.1 x (ht _ _ _ C.2.2.2) hx h0 (C.1.2.2.2.2.2.2.1 _ hlk) (C.2.1.2.2.2.1.use rfl) (H := T'.heap) (by rw [e1]; exact hce) hcv hcl
      (kk q9 l p e s m args below meth c T'.heap (locs ++ L) ls C hls (by rw [e1]; exact hP1) ⟨Nat.le_trans hS.1 (by rw [e1]; exact hz), fun q h1 h2 => by rw [e1, hk q (Nat.lt_of_lt_of_le h1 hS.1) h2]; exact hS.2.1 q h1 h2, fun q hq => by
        rcases List.mem_append.mp hq with h | h
        · exact hS.2.2 q h
        · exact hL1 q h⟩) T' rfl X'
    exact ⟨t2, stp.trans a1, b1⟩
/-- contracts of methods with a table: one that throws nothing, one that catches -/
def CalW (E : zE) (d : Nat) (y : MethodName) (cc : ByteArray) (nL : Nat) (ret : Option FieldType) (hh : List (Nat × Nat × Nat × Nat)) (args : List Value) (σ : zT) (P : Option Value → zT → Prop) : Prop :=
  ∀ l : Launch, Met l y (.codeWith y cc nL ret hh :: zG) (zRm d) (va_Pc args (zPre E σ)) (zQ E P) 0 0 (zFr E)
def CalV (E : zE) (d : Nat) (y : MethodName) (cc : ByteArray) (nL : Nat) (ret : Option FieldType) (hh : List (Nat × Nat × Nat × Nat)) (args : List Value) (σ : zT) (P : Option Value → zT → Prop) : Prop :=
  ∀ l : Launch, l.stackTraces = false → Met l y (.codeWith y cc nL ret hh :: zG) (zRx d) (va_Pc args (zPreX E σ)) (zQ E P) 1 6 (zFr E)
theorem calW_of {y : MethodName} {args : List Value} {hh : List (Nat × Nat × Nat × Nat)} (ho : y.cls = own) (hy : plainName y.cls = true) (hlen : (lg_sl args).length ≤ nL) (hG : GoM E d own cc nL ret P σ 0 (lv_args 0 args) []) : CalW E d y cc nL ret hh args σ P := by
  subst ho
  intro l
  refine va_MetW (cc := cc) (maxL := nL) (ret := ret) (hh := hh) hy rfl ?_
  intro p e s m a below meth c s₁ B hml hv
  obtain ⟨rfl, hP, hK, hz, hE, hF⟩ := hv
  have hts := atoms_spec (ws := .codeWith y cc nL ret hh :: zG) B.pre
  have hown : s.vm.findClass y.cls = some m.cls := findClass_of_methodNamed B.named
  have hl := lv_entry args (n := nL) hlen
  rw [lg_entry_eq]
  exact hG l p e s m args.toArray below meth c s.heap [] _ ⟨B.exec, B.bytes, hml, B.returns, B.notSynchronized, hown, fun w hw => hts w (List.mem_cons_of_mem _ hw), hK, hz, hE, hF⟩ hl hP va_S.rf
abbrev xQv (E : zE) (P : Option Value → zT → Prop) : List Frame → Array Value → State → State → Prop := fun below args s => MQ below (zQ E P) args s 1 6 (zFr E)
abbrev xJh (hh : List (Nat × Nat × Nat × Nat)) : Array Value → State → Code → Prop := fun _ _ c => c.exceptionTable.toList = tableOf hh
theorem calV_of {y : MethodName} {args : List Value} {hh : List (Nat × Nat × Nat × Nat)} (ho : y.cls = own) (hy : plainName y.cls = true) (hlen : (lg_sl args).length ≤ nL) (hG : GoG E (zRx d) 0 0 own cc nL ret (xQv E P) (xJh hh) σ 0 (lv_args 0 args) []) : CalV E d y cc nL ret hh args σ P := by
  subst ho
  intro l hst
  refine va_MetW (cc := cc) (maxL := nL) (ret := ret) (hh := hh) hy rfl ?_
  intro p e s m a below meth c s₁ B hml hv
  obtain ⟨rfl, ⟨hP, hK, hz, hE, hF⟩, hX⟩ := hv
  have hts := atoms_spec (ws := .codeWith y cc nL ret hh :: zG) B.pre
  have hown : s.vm.findClass y.cls = some m.cls := findClass_of_methodNamed B.named
  have hl := lv_entry args (n := nL) hlen
  have htab := vx_table (x := y) B (hts _ List.mem_cons_self)
  rw [lg_entry_eq]
  exact hG l p e s m args.toArray below meth c s.heap [] _ ⟨⟨B.exec, B.bytes, hml, B.returns, B.notSynchronized, hown, fun w hw => hts w (List.mem_cons_of_mem _ hw), hK, hz, hE, hF⟩, hX, hst, htab⟩ hl hP va_S.rf
theorem gx_vret {v : Int32} (hd : decode cc pc = .ok (.ireturn, 1)) (hr : ret = some .int) (hp : P (some (.int v)) σ) : GoG E R 1 6 own cc nL ret (xQv E P) J σ pc lv [.int v] :=
  fun l p e s m args below meth c H locs ls C hl hP hS => W.iret C.1.1 C.1.2.1 (C.1.2.2.2.1.trans hr) (fun t ht _ => ⟨⟨_, σ, rfl, hp, by rw [ht]; exact hP⟩, hS.F ht⟩) hS.2.2 hd C.1.2.2.2.2.1
def zMW (y : MethodName) (cb : ByteArray) (mL : Nat) (rt : Option FieldType) (hh : List (Nat × Nat × Nat × Nat)) (n : Nat) : Prop := Cond.initialized y.cls ∈ zG ∧ Cond.codeWith y cb mL rt hh ∈ zG ∧ (y.cls ≠ "java/lang/invoke/MethodHandle" ∧ y.cls ≠ "java/lang/invoke/VarHandle") ∧ (parseMethodDescriptor y.desc).map (fun d => d.parameters.length) = some n ∧ Cond.static y ∈ zG
theorem z_csw {s : State} {args : Array Value} {y : MethodName} {cb : ByteArray} {mL idx n : Nat} {rt : Option FieldType} {hh : List (Nat × Nat × Nat × Nat)} {rm : Room} {mc ms : Nat} (hts : ∀ w ∈ zG, w.before args s = true) (hl : Cond.methodLink own idx y ∈ zG) (hm : zMW y cb mL rt hh n) (hrc : rm.cells = mc) (hrs : rm.slots = ms) (hR : rm.frames + 1 ≤ R.frames ∧ rm.locals + 48 ≤ R.locals) (hL : mL ≤ 29) :
    vx_CSW R s args own idx y cb mL rt hh (Cond.codeWith y cb mL rt hh :: zG) rm mc ms n := by
  refine ⟨⟨hrc, hrs, hR.1, by omega, pay_in hts (fun w hw => ?_), List.mem_cons_self⟩, hts _ hm.2.1, hts _ hm.1, hm.2.2.1, fun sig h => ?_, hts _ hl, hts _ hm.2.2.2.2⟩
  · rcases List.mem_cons.mp hw with h | h
    · rw [h]; exact zG_good (fun _ h => h) _ hm.2.1
    · exact zG_good (fun _ h => h) w h
  · have h2 := hm.2.2.2.1
    rw [h] at h2
    exact (Option.some.inj h2).symm
theorem gx_callW {P1 : Option Value → zT → Prop} {y : MethodName} {cb : ByteArray} {mL idx n d2 : Nat} {rt : Option FieldType} {hh : List (Nat × Nat × Nat × Nat)} {As rest : List Value} (hl : Cond.methodLink own idx y ∈ zG) (hm : zMW y cb mL rt hh n) (hd : decode cc pc = .ok (.invokestatic idx, 3))
    (hc : CalW E d2 y cb mL rt hh As σ P1) (hdd : d2 + 1 ≤ R.frames ∧ 48 * d2 + 48 ≤ R.locals) (hcs : cz ≤ R.cells ∧ sz ≤ R.slots) (hL : mL ≤ 29) (hn : As.length = n) (hst : zPush As rest = st) (hw : (rest.map fun v => v.category).sum ≤ 8)
    (kk : ∀ (r : Option Value) (σ' : zT), P1 r σ' → GoG E R cz sz own cc nL ret Q J σ' (pc + 3) lv (zRet r rest)) : GoG E R cz sz own cc nL ret Q J σ pc lv st := by
  intro l p e s m args below meth c H locs ls C hls hP hS
  refine x_after (mc := 0) (ms := 0) C hls hS (vx_runSW (Ts := zG) (own := own) (As := As) ⟨C.1.1, C.1.2.1, C.1.2.2.1, C.1.2.2.2.2.2.1, C.1.2.2.2.2.2.2.1⟩ (hc l) (z_csw C.1.2.2.2.2.2.2.1 hl hm rfl rfl hdd hL) ⟨z_blind _, fun U hU hW => ⟨rfl, z_preU C.1 hP hS hU hW⟩⟩ rfl hn hls.1 ?_ (lv_room hw) hd hcs) kk
  show st = As.reverse ++ rest
  rw [← hst, z_push]
theorem gx_callVW {P1 : Option Value → zT → Prop} {y : MethodName} {cb : ByteArray} {mL idx n d2 : Nat} {rt : Option FieldType} {hh : List (Nat × Nat × Nat × Nat)} {As rest : List Value} (hl : Cond.methodLink own idx y ∈ zG) (hm : zMW y cb mL rt hh n) (hd : decode cc pc = .ok (.invokestatic idx, 3))
    (hc : CalV E d2 y cb mL rt hh As σ P1) (hdd : d2 + 1 ≤ R.frames ∧ 48 * d2 + 48 ≤ R.locals) (hcs : cz + 1 ≤ R.cells ∧ sz + 6 ≤ R.slots) (hL : mL ≤ 29) (hn : As.length = n) (hst : zPush As rest = st) (hw : (rest.map fun v => v.category).sum ≤ 8)
    (kk : ∀ (r : Option Value) (σ' : zT), P1 r σ' → GoG E R (cz + 1) (sz + 6) own cc nL ret Q J σ' (pc + 3) lv (zRet r rest)) : GoG E R cz sz own cc nL ret Q J σ pc lv st := by
  intro l p e s m args below meth c H locs ls C hls hP hS
  refine x_after (mc := 1) (ms := 6) C hls hS (vx_runSW (Ts := zG) (own := own) (As := As) ⟨C.1.1, C.1.2.1, C.1.2.2.1, C.1.2.2.2.2.2.1, C.1.2.2.2.2.2.2.1⟩ (hc l C.2.2.1) (z_csw C.1.2.2.2.2.2.2.1 hl hm rfl rfl hdd hL) ⟨x_blind _, fun U hU hW => ⟨rfl, x_preU C hP hS hU hW⟩⟩ rfl hn hls.1 ?_ (lv_room hw) hd hcs) kk
  show st = As.reverse ++ rest
  rw [← hst, z_push]
end XW

theorem c_X11_mile {E : zE} {σ : zT} {tx : Nat × (Nat → Nat)} {bd : Nat × (Nat → Nat) × (Nat → Nat)} {sk : Nat × (Nat → Nat)} {tw : Nat × (Nat → Nat) × (Nat → Nat)} {xs : List Nat} {ld : Nat × (Nat → Nat)} {pa sh : Nat × (Nat → Nat → Nat)} {ru : Nat × (Nat → Nat) × (Nat → Nat)} {to : Nat × (Nat → Int64)} {m w v : Int32} (hC : ClsIs σ tx bd sk tw xs ld pa sh ru to) (h : mileA ld.1 ld.2 m w = some v) : CalM E 2 yX11_mile cX11_mile 3 (some .int) [.ref (zA E 0 0), .int m, .int w] σ (fun r σ' => r = some (.int v) ∧ ClsIs σ' tx bd sk tw xs ld pa sh ru to ∧ Fr33 σ σ') := by
  refine cal_of_go (own := RX11) rfl (by decide +kernel) (Nat.le_of_ble_eq_true rfl) ?_
  have hL := hC.2.2.2.2.2.1
  have hn := hL.b
  have hok := hL.1
  have hB0 := hC.2.2.1
  have hnc := hB0.1
  have hW0 := hC.2.2.2.2.1
  have hT0 := hC.2.2.2.2.2.2.2.2.2
  have hq : inB m ld.1 ∧ in0 w 2 := Decidable.byContradiction (fun hq => by rw [show mileA ld.1 ld.2 m w = none from if_neg hq] at h; cases h)
  rw [show mileA ld.1 ld.2 m w = some _ from if_pos hq] at h
  have hv := Option.some.inj h
  subst hv
  clear h
  have q1 : 0 ≤ m.toInt := hq.1.1
  have q2 : m.toInt < (ld.1 : Int) := hq.1.2
  have q3 : 0 ≤ w.toInt := hq.2.1
  have q4 := hq.2.2
  refine go_aload_n (i := 0) (pc := 0) dX11_mile_0 rfl rfl ?_
  refine go_getr2 fl_X11_49 (pc := 1) dX11_mile_1 (by first | rfl | (apply zL_ci <;> assumption) | (apply zR_ci <;> assumption)) (by first | rfl | (apply zL_in <;> first | assumption | decide) | (apply zR_in <;> first | assumption | decide)) (by first | rfl | (apply zL_fr0 <;> assumption) | (apply zL_fr1 <;> assumption) | (apply zR_fr0 <;> assumption) | (apply zR_fr1 <;> assumption) | (apply zR_fr2 <;> assumption) | (apply zR_fr3 <;> assumption)) ?_
  refine go_iload_n (i := 1) (pc := 4) dX11_mile_4 rfl rfl ?_
  refine go_callV ml_X11_144 mt_X2_has (pc := 5) dX11_mile_5 (c_X2_has rfl hL) (by first | rfl | (apply zL_cq <;> assumption) | (apply zR_cq <;> assumption)) rfl (by first | rfl | (apply zL_in <;> first | assumption | decide) | (apply zR_in <;> first | assumption | decide)) (by decide) (by decide) rfl rfl (Nat.le_of_ble_eq_true rfl) (fun r σ' hp => ?_)
  obtain ⟨rfl, hσ⟩ := hp
  rw [hσ]
  clear hσ σ'
  dsimp only [zRet]
  refine go_if_eq 20 (pc := 8) dX11_mile_8 (by decide) (fun h8 => ?_) (fun h8 => ?_)
  · first | rw [zb_0d] at h8 | rw [zn_eq0 (by omega)] at h8 | rw [zi_eq0] at h8
    exact absurd hq.1 h8
  · first | rw [zb_0d] at h8 | rw [zn_eq0 (by omega)] at h8 | rw [zi_eq0] at h8
    refine go_iload_n (i := 2) (pc := 11) dX11_mile_11 rfl rfl ?_
    refine go_if_lt 20 (pc := 12) dX11_mile_12 (by decide) (fun h12 => ?_) (fun h12 => ?_)
    · first | rw [zb_0d] at h12 | rw [zn_lt0 (by omega)] at h12 | rw [zi_lt0] at h12
      exfalso; omega
    · first | rw [zb_0d] at h12 | rw [zn_lt0 (by omega)] at h12 | rw [zi_lt0] at h12
      refine go_iload_n (i := 2) (pc := 15) dX11_mile_15 rfl rfl ?_
      refine go_iconst (nI 2) (pc := 16) dX11_mile_16 (by decide) ?_
      refine go_icmp_le 28 (pc := 17) dX11_mile_17 (by decide) (fun h17 => ?_) (fun h17 => ?_)
      · first | rw [nI_leI (by omega) (by omega)] at h17 | rw [zi_leN (by omega)] at h17 | rw [zi_Nle (by omega)] at h17 | rw [zi_le] at h17
        have em1 := nI_of' (x := m) (by omega)
        generalize hqm1 : m.toInt.toNat = m1 at em1 ⊢
        have hm1 : m1 < ld.1 := by omega
        subst em1
        refine go_iload_n (i := 2) (pc := 28) dX11_mile_28 rfl rfl ?_
        refine go_if_ne 41 (pc := 29) dX11_mile_29 (by decide) (fun h29 => ?_) (fun h29 => ?_)
        · first | rw [zb_0d] at h29 | rw [zn_eq0 (by omega)] at h29 | rw [zi_eq0] at h29
          rw [if_neg h29]
          refine go_iload_n (i := 2) (pc := 41) dX11_mile_41 rfl rfl ?_
          refine go_iconst (nI 1) (pc := 42) dX11_mile_42 (by decide) ?_
          refine go_icmp_ne 63 (pc := 43) dX11_mile_43 (by decide) (fun h43 => ?_) (fun h43 => ?_)
          · first | rw [nI_eq (by omega) (by omega)] at h43 | rw [zi_eqN (by omega)] at h43 | rw [zi_Neq (by omega)] at h43 | rw [zi_eq] at h43
            rw [if_neg (show ¬ w.toInt = 1 by omega)]
            refine go_aload_n (i := 0) (pc := 63) dX11_mile_63 rfl rfl ?_
            refine go_getr2 fl_X11_49 (pc := 64) dX11_mile_64 (by first | rfl | (apply zL_ci <;> assumption) | (apply zR_ci <;> assumption)) (by first | rfl | (apply zL_in <;> first | assumption | decide) | (apply zR_in <;> first | assumption | decide)) (by first | rfl | (apply zL_fr0 <;> assumption) | (apply zL_fr1 <;> assumption) | (apply zR_fr0 <;> assumption) | (apply zR_fr1 <;> assumption) | (apply zR_fr2 <;> assumption) | (apply zR_fr3 <;> assumption)) ?_
            refine go_iload_n (i := 1) (pc := 67) dX11_mile_67 rfl rfl ?_
            refine go_callV ml_X11_156 mt_X2_menAt (pc := 68) dX11_mile_68 (c_X2_menAt rfl hL hm1) (by first | rfl | (apply zL_cq <;> assumption) | (apply zR_cq <;> assumption)) rfl (by first | rfl | (apply zL_in <;> first | assumption | decide) | (apply zR_in <;> first | assumption | decide)) (by decide) (by decide) rfl rfl (Nat.le_of_ble_eq_true rfl) (fun r σ' hp => ?_)
            obtain ⟨rfl, hσ⟩ := hp
            rw [hσ]
            clear hσ σ'
            dsimp only [zRet]
            refine go_ireturn (pc := 71) dX11_mile_71 rfl ?_
            exact ⟨rfl, hC, Fr33.rf⟩
          · first | rw [nI_eq (by omega) (by omega)] at h43 | rw [zi_eqN (by omega)] at h43 | rw [zi_Neq (by omega)] at h43 | rw [zi_eq] at h43
            have h43 : w.toInt = 1 := by omega
            rw [if_pos h43]
            refine go_aload_n (i := 0) (pc := 46) dX11_mile_46 rfl rfl ?_
            refine go_getr2 fl_X11_49 (pc := 47) dX11_mile_47 (by first | rfl | (apply zL_ci <;> assumption) | (apply zR_ci <;> assumption)) (by first | rfl | (apply zL_in <;> first | assumption | decide) | (apply zR_in <;> first | assumption | decide)) (by first | rfl | (apply zL_fr0 <;> assumption) | (apply zL_fr1 <;> assumption) | (apply zR_fr0 <;> assumption) | (apply zR_fr1 <;> assumption) | (apply zR_fr2 <;> assumption) | (apply zR_fr3 <;> assumption)) ?_
            refine go_iload_n (i := 1) (pc := 50) dX11_mile_50 rfl rfl ?_
            refine go_callV ml_X11_153 mt_X2_hasGate (pc := 51) dX11_mile_51 (c_X2_hasGate rfl hL hm1) (by first | rfl | (apply zL_cq <;> assumption) | (apply zR_cq <;> assumption)) rfl (by first | rfl | (apply zL_in <;> first | assumption | decide) | (apply zR_in <;> first | assumption | decide)) (by decide) (by decide) rfl rfl (Nat.le_of_ble_eq_true rfl) (fun r σ' hp => ?_)
            obtain ⟨rfl, hσ⟩ := hp
            rw [hσ]
            clear hσ σ'
            dsimp only [zRet]
            refine go_if_eq 61 (pc := 54) dX11_mile_54 (by decide) (fun h54 => ?_) (fun h54 => ?_)
            · rw [zb_0] at h54
              rw [h54]
              refine go_iconst (nI 0) (pc := 61) dX11_mile_61 (by decide) ?_
              refine go_ireturn (pc := 62) dX11_mile_62 rfl ?_
              exact ⟨rfl, hC, Fr33.rf⟩
            · rw [zb_0] at h54
              rw [show (ld.2 24).testBit m1 = true by simpa using h54]
              refine go_iconst (nI 1) (pc := 57) dX11_mile_57 (by decide) ?_
              refine go_goto 62 (pc := 58) dX11_mile_58 (by decide) ?_
              refine go_ireturn (pc := 62) dX11_mile_62 rfl ?_
              exact ⟨rfl, hC, Fr33.rf⟩
        · first | rw [zb_0d] at h29 | rw [zn_eq0 (by omega)] at h29 | rw [zi_eq0] at h29
          have h29 : w.toInt = 0 := by omega
          rw [if_pos h29]
          refine go_aload_n (i := 0) (pc := 32) dX11_mile_32 rfl rfl ?_
          refine go_getr2 fl_X11_49 (pc := 33) dX11_mile_33 (by first | rfl | (apply zL_ci <;> assumption) | (apply zR_ci <;> assumption)) (by first | rfl | (apply zL_in <;> first | assumption | decide) | (apply zR_in <;> first | assumption | decide)) (by first | rfl | (apply zL_fr0 <;> assumption) | (apply zL_fr1 <;> assumption) | (apply zR_fr0 <;> assumption) | (apply zR_fr1 <;> assumption) | (apply zR_fr2 <;> assumption) | (apply zR_fr3 <;> assumption)) ?_
          refine go_iload_n (i := 1) (pc := 36) dX11_mile_36 rfl rfl ?_
          refine go_callV ml_X11_150 mt_X2_hedgeAt (pc := 37) dX11_mile_37 (c_X2_hedgeAt rfl hL hm1) (by first | rfl | (apply zL_cq <;> assumption) | (apply zR_cq <;> assumption)) rfl (by first | rfl | (apply zL_in <;> first | assumption | decide) | (apply zR_in <;> first | assumption | decide)) (by decide) (by decide) rfl rfl (Nat.le_of_ble_eq_true rfl) (fun r σ' hp => ?_)
          obtain ⟨rfl, hσ⟩ := hp
          rw [hσ]
          clear hσ σ'
          dsimp only [zRet]
          refine go_ireturn (pc := 40) dX11_mile_40 rfl ?_
          exact ⟨rfl, hC, Fr33.rf⟩
      · first | rw [nI_leI (by omega) (by omega)] at h17 | rw [zi_leN (by omega)] at h17 | rw [zi_Nle (by omega)] at h17 | rw [zi_le] at h17
        exfalso; omega

theorem c_X11_mouth {E : zE} {σ : zT} {tx : Nat × (Nat → Nat)} {bd : Nat × (Nat → Nat) × (Nat → Nat)} {sk : Nat × (Nat → Nat)} {tw : Nat × (Nat → Nat) × (Nat → Nat)} {xs : List Nat} {ld : Nat × (Nat → Nat)} {pa sh : Nat × (Nat → Nat → Nat)} {ru : Nat × (Nat → Nat) × (Nat → Nat)} {to : Nat × (Nat → Int64)} {m w v : Int32} (hC : ClsIs σ tx bd sk tw xs ld pa sh ru to) (h : mouA tw m w = some v) : CalM E 2 yX11_mouth cX11_mouth 3 (some .int) [.ref (zA E 0 0), .int m, .int w] σ (fun r σ' => r = some (.int v) ∧ ClsIs σ' tx bd sk tw xs ld pa sh ru to ∧ Fr33 σ σ') := by
  refine cal_of_go (own := RX11) rfl (by decide +kernel) (Nat.le_of_ble_eq_true rfl) ?_
  have hL := hC.2.2.2.2.2.1
  have hn := hL.b
  have hok := hL.1
  have hB0 := hC.2.2.1
  have hnc := hB0.1
  have hW0 := hC.2.2.2.2.1
  have hT0 := hC.2.2.2.2.2.2.2.2.2
  have hs8 := hW0.1
  have hq : inB m tw.1 ∧ in0 w 1 := Decidable.byContradiction (fun hq => by rw [show mouA tw m w = none from if_neg hq] at h; cases h)
  rw [show mouA tw m w = some _ from if_pos hq] at h
  have hv := Option.some.inj h
  subst hv
  clear h
  have q1 : 0 ≤ m.toInt := hq.1.1
  have q2 : m.toInt < (tw.1 : Int) := hq.1.2
  have q3 : 0 ≤ w.toInt := hq.2.1
  have q4 := hq.2.2
  refine go_aload_n (i := 0) (pc := 0) dX11_mouth_0 rfl rfl ?_
  refine go_getr2 fl_X11_33 (pc := 1) dX11_mouth_1 (by first | rfl | (apply zL_ci <;> assumption) | (apply zR_ci <;> assumption)) (by first | rfl | (apply zL_in <;> first | assumption | decide) | (apply zR_in <;> first | assumption | decide)) (by first | rfl | (apply zL_fr0 <;> assumption) | (apply zL_fr1 <;> assumption) | (apply zR_fr0 <;> assumption) | (apply zR_fr1 <;> assumption) | (apply zR_fr2 <;> assumption) | (apply zR_fr3 <;> assumption)) ?_
  refine go_iload_n (i := 1) (pc := 4) dX11_mouth_4 rfl rfl ?_
  refine go_callV ml_X11_176 mt_X10_has (pc := 5) dX11_mouth_5 (c_X10_has hW0) (by first | rfl | (apply zL_cq <;> assumption) | (apply zR_cq <;> assumption)) rfl (by first | rfl | (apply zL_in <;> first | assumption | decide) | (apply zR_in <;> first | assumption | decide)) (by decide) (by decide) rfl rfl (Nat.le_of_ble_eq_true rfl) (fun r σ' hp => ?_)
  obtain ⟨rfl, hσ⟩ := hp
  rw [hσ]
  clear hσ σ'
  dsimp only [zRet]
  refine go_if_eq 20 (pc := 8) dX11_mouth_8 (by decide) (fun h8 => ?_) (fun h8 => ?_)
  · first | rw [zb_0d] at h8 | rw [zn_eq0 (by omega)] at h8 | rw [zi_eq0] at h8
    exact absurd hq.1 h8
  · first | rw [zb_0d] at h8 | rw [zn_eq0 (by omega)] at h8 | rw [zi_eq0] at h8
    refine go_iload_n (i := 2) (pc := 11) dX11_mouth_11 rfl rfl ?_
    refine go_if_lt 20 (pc := 12) dX11_mouth_12 (by decide) (fun h12 => ?_) (fun h12 => ?_)
    · first | rw [zb_0d] at h12 | rw [zn_lt0 (by omega)] at h12 | rw [zi_lt0] at h12
      exfalso; omega
    · first | rw [zb_0d] at h12 | rw [zn_lt0 (by omega)] at h12 | rw [zi_lt0] at h12
      refine go_iload_n (i := 2) (pc := 15) dX11_mouth_15 rfl rfl ?_
      refine go_iconst (nI 1) (pc := 16) dX11_mouth_16 (by decide) ?_
      refine go_icmp_le 28 (pc := 17) dX11_mouth_17 (by decide) (fun h17 => ?_) (fun h17 => ?_)
      · first | rw [nI_leI (by omega) (by omega)] at h17 | rw [zi_leN (by omega)] at h17 | rw [zi_Nle (by omega)] at h17 | rw [zi_le] at h17
        have em1 := nI_of' (x := m) (by omega)
        generalize hqm1 : m.toInt.toNat = m1 at em1 ⊢
        have hm1 : m1 < tw.1 := by omega
        subst em1
        refine go_iload_n (i := 2) (pc := 28) dX11_mouth_28 rfl rfl ?_
        refine go_if_ne 43 (pc := 29) dX11_mouth_29 (by decide) (fun h29 => ?_) (fun h29 => ?_)
        · first | rw [zb_0d] at h29 | rw [zn_eq0 (by omega)] at h29 | rw [zi_eq0] at h29
          rw [if_neg h29]
          refine go_aload_n (i := 0) (pc := 43) dX11_mouth_43 rfl rfl ?_
          refine go_getr2 fl_X11_33 (pc := 44) dX11_mouth_44 (by first | rfl | (apply zL_ci <;> assumption) | (apply zR_ci <;> assumption)) (by first | rfl | (apply zL_in <;> first | assumption | decide) | (apply zR_in <;> first | assumption | decide)) (by first | rfl | (apply zL_fr0 <;> assumption) | (apply zL_fr1 <;> assumption) | (apply zR_fr0 <;> assumption) | (apply zR_fr1 <;> assumption) | (apply zR_fr2 <;> assumption) | (apply zR_fr3 <;> assumption)) ?_
          refine go_iload_n (i := 1) (pc := 47) dX11_mouth_47 rfl rfl ?_
          refine go_callV ml_X11_180 mt_X10_purseOf (pc := 48) dX11_mouth_48 (c_X10_purseOf hW0 hm1) (by first | rfl | (apply zL_cq <;> assumption) | (apply zR_cq <;> assumption)) rfl (by first | rfl | (apply zL_in <;> first | assumption | decide) | (apply zR_in <;> first | assumption | decide)) (by decide) (by decide) rfl rfl (Nat.le_of_ble_eq_true rfl) (fun r σ' hp => ?_)
          obtain ⟨rfl, hσ⟩ := hp
          rw [hσ]
          clear hσ σ'
          dsimp only [zRet]
          refine go_ireturn (pc := 51) dX11_mouth_51 rfl ?_
          exact ⟨rfl, hC, Fr33.rf⟩
        · first | rw [zb_0d] at h29 | rw [zn_eq0 (by omega)] at h29 | rw [zi_eq0] at h29
          have h29 : w.toInt = 0 := by omega
          rw [if_pos h29]
          refine go_aload_n (i := 0) (pc := 32) dX11_mouth_32 rfl rfl ?_
          refine go_getr2 fl_X11_33 (pc := 33) dX11_mouth_33 (by first | rfl | (apply zL_ci <;> assumption) | (apply zR_ci <;> assumption)) (by first | rfl | (apply zL_in <;> first | assumption | decide) | (apply zR_in <;> first | assumption | decide)) (by first | rfl | (apply zL_fr0 <;> assumption) | (apply zL_fr1 <;> assumption) | (apply zR_fr0 <;> assumption) | (apply zR_fr1 <;> assumption) | (apply zR_fr2 <;> assumption) | (apply zR_fr3 <;> assumption)) ?_
          refine go_iload_n (i := 1) (pc := 36) dX11_mouth_36 rfl rfl ?_
          refine go_callV ml_X11_177 mt_X10_peopleOf (pc := 37) dX11_mouth_37 (c_X10_peopleOf hW0 hm1) (by first | rfl | (apply zL_cq <;> assumption) | (apply zR_cq <;> assumption)) rfl (by first | rfl | (apply zL_in <;> first | assumption | decide) | (apply zR_in <;> first | assumption | decide)) (by decide) (by decide) rfl rfl (Nat.le_of_ble_eq_true rfl) (fun r σ' hp => ?_)
          obtain ⟨rfl, hσ⟩ := hp
          rw [hσ]
          clear hσ σ'
          dsimp only [zRet]
          refine go_goto 51 (pc := 40) dX11_mouth_40 (by decide) ?_
          refine go_ireturn (pc := 51) dX11_mouth_51 rfl ?_
          exact ⟨rfl, hC, Fr33.rf⟩
      · first | rw [nI_leI (by omega) (by omega)] at h17 | rw [zi_leN (by omega)] at h17 | rw [zi_Nle (by omega)] at h17 | rw [zi_le] at h17
        exfalso; omega

theorem c_X11_carrier {E : zE} {σ : zT} {tx : Nat × (Nat → Nat)} {bd : Nat × (Nat → Nat) × (Nat → Nat)} {sk : Nat × (Nat → Nat)} {tw : Nat × (Nat → Nat) × (Nat → Nat)} {xs : List Nat} {ld : Nat × (Nat → Nat)} {pa sh : Nat × (Nat → Nat → Nat)} {ru : Nat × (Nat → Nat) × (Nat → Nat)} {to : Nat × (Nat → Int64)} {m w v : Int32} (hC : ClsIs σ tx bd sk tw xs ld pa sh ru to) (h : carA (vOf bd sk xs ld.1) ld.2 m w = some v) : CalM E 5 yX11_carrier cX11_carrier 3 (some .int) [.ref (zA E 0 0), .int m, .int w] σ (fun r σ' => r = some (.int v) ∧ ClsIs σ' tx bd sk tw xs ld pa sh ru to ∧ Fr33 σ σ') := by
  refine cal_of_go (own := RX11) rfl (by decide +kernel) (Nat.le_of_ble_eq_true rfl) ?_
  have hL := hC.2.2.2.2.2.1
  have hn := hL.b
  have hok := hL.1
  have hB0 := hC.2.2.1
  have hnc := hB0.1
  have hW0 := hC.2.2.2.2.1
  have hT0 := hC.2.2.2.2.2.2.2.2.2
  have hq : inB m bd.1 ∧ in0 w 3 := Decidable.byContradiction (fun hq => by rw [show carA (vOf bd sk xs ld.1) ld.2 m w = none from if_neg hq] at h; cases h)
  rw [show carA (vOf bd sk xs ld.1) ld.2 m w = some _ from if_pos hq] at h
  have hv := Option.some.inj h
  subst hv
  clear h
  have q1 : 0 ≤ m.toInt := hq.1.1
  have q2 : m.toInt < (bd.1 : Int) := hq.1.2
  have q3 : 0 ≤ w.toInt := hq.2.1
  have q4 := hq.2.2
  refine go_aload_n (i := 0) (pc := 0) dX11_carrier_0 rfl rfl ?_
  refine go_getr2 fl_X11_19 (pc := 1) dX11_carrier_1 (by first | rfl | (apply zL_ci <;> assumption) | (apply zR_ci <;> assumption)) (by first | rfl | (apply zL_in <;> first | assumption | decide) | (apply zR_in <;> first | assumption | decide)) (by first | rfl | (apply zL_fr0 <;> assumption) | (apply zL_fr1 <;> assumption) | (apply zR_fr0 <;> assumption) | (apply zR_fr1 <;> assumption) | (apply zR_fr2 <;> assumption) | (apply zR_fr3 <;> assumption)) ?_
  refine go_iload_n (i := 1) (pc := 4) dX11_carrier_4 rfl rfl ?_
  refine go_callV ml_X11_159 mt_X0_has (pc := 5) dX11_carrier_5 (c_X0_has hB0) (by first | rfl | (apply zL_cq <;> assumption) | (apply zR_cq <;> assumption)) rfl (by first | rfl | (apply zL_in <;> first | assumption | decide) | (apply zR_in <;> first | assumption | decide)) (by decide) (by decide) rfl rfl (Nat.le_of_ble_eq_true rfl) (fun r σ' hp => ?_)
  obtain ⟨rfl, hσ⟩ := hp
  rw [hσ]
  clear hσ σ'
  dsimp only [zRet]
  refine go_if_eq 20 (pc := 8) dX11_carrier_8 (by decide) (fun h8 => ?_) (fun h8 => ?_)
  · first | rw [zb_0d] at h8 | rw [zn_eq0 (by omega)] at h8 | rw [zi_eq0] at h8
    exact absurd hq.1 h8
  · first | rw [zb_0d] at h8 | rw [zn_eq0 (by omega)] at h8 | rw [zi_eq0] at h8
    refine go_iload_n (i := 2) (pc := 11) dX11_carrier_11 rfl rfl ?_
    refine go_if_lt 20 (pc := 12) dX11_carrier_12 (by decide) (fun h12 => ?_) (fun h12 => ?_)
    · first | rw [zb_0d] at h12 | rw [zn_lt0 (by omega)] at h12 | rw [zi_lt0] at h12
      exfalso; omega
    · first | rw [zb_0d] at h12 | rw [zn_lt0 (by omega)] at h12 | rw [zi_lt0] at h12
      refine go_iload_n (i := 2) (pc := 15) dX11_carrier_15 rfl rfl ?_
      refine go_iconst (nI 3) (pc := 16) dX11_carrier_16 (by decide) ?_
      refine go_icmp_le 28 (pc := 17) dX11_carrier_17 (by decide) (fun h17 => ?_) (fun h17 => ?_)
      · first | rw [nI_leI (by omega) (by omega)] at h17 | rw [zi_leN (by omega)] at h17 | rw [zi_Nle (by omega)] at h17 | rw [zi_le] at h17
        obtain ⟨kr, hkr, hz, hR14, hW⟩ := hC.w (kl := 6) rfl hL
        have em1 := nI_of' (x := m) (by omega)
        generalize hqm1 : m.toInt.toNat = m1 at em1 ⊢
        have hm1 : m1 < bd.1 := by omega
        subst em1
        have hV := hW.vok
        have hsl : ∀ b, easy (vOf bd sk xs ld.1) ld.2 m1 = some b → b.1 < ld.1 ∧ b.2 ≤ 999 := fun b hb => saf_lt (b := b.1) (x := b.2) hV hok hb
        refine go_iload_n (i := 2) (pc := 28) dX11_carrier_28 rfl rfl ?_
        refine go_if_ne 41 (pc := 29) dX11_carrier_29 (by decide) (fun h29 => ?_) (fun h29 => ?_)
        · first | rw [zb_0d] at h29 | rw [zn_eq0 (by omega)] at h29 | rw [zi_eq0] at h29
          rw [if_neg h29]
          refine go_iload_n (i := 2) (pc := 41) dX11_carrier_41 rfl rfl ?_
          refine go_iconst (nI 1) (pc := 42) dX11_carrier_42 (by decide) ?_
          refine go_icmp_ne 55 (pc := 43) dX11_carrier_43 (by decide) (fun h43 => ?_) (fun h43 => ?_)
          · first | rw [nI_eq (by omega) (by omega)] at h43 | rw [zi_eqN (by omega)] at h43 | rw [zi_Neq (by omega)] at h43 | rw [zi_eq] at h43
            rw [if_neg (show ¬ w.toInt = 1 by omega)]
            refine go_iload_n (i := 2) (pc := 55) dX11_carrier_55 rfl rfl ?_
            refine go_iconst (nI 2) (pc := 56) dX11_carrier_56 (by decide) ?_
            refine go_icmp_ne 77 (pc := 57) dX11_carrier_57 (by decide) (fun h57 => ?_) (fun h57 => ?_)
            · first | rw [nI_eq (by omega) (by omega)] at h57 | rw [zi_eqN (by omega)] at h57 | rw [zi_Neq (by omega)] at h57 | rw [zi_eq] at h57
              rw [if_neg (show ¬ w.toInt = 2 by omega)]
              refine go_aload_n (i := 0) (pc := 77) dX11_carrier_77 rfl rfl ?_
              refine go_getr2 fl_X11_42 (pc := 78) dX11_carrier_78 (by first | rfl | (apply zL_ci <;> assumption) | (apply zR_ci <;> assumption)) (by first | rfl | (apply zL_in <;> first | assumption | decide) | (apply zR_in <;> first | assumption | decide)) (by first | rfl | (apply zL_fr0 <;> assumption) | (apply zL_fr1 <;> assumption) | (apply zR_fr0 <;> assumption) | (apply zR_fr1 <;> assumption) | (apply zR_fr2 <;> assumption) | (apply zR_fr3 <;> assumption)) ?_
              refine go_aload_n (i := 0) (pc := 81) dX11_carrier_81 rfl rfl ?_
              refine go_getR fl_X11_97 (pc := 82) dX11_carrier_82 rfl ?_
              rw [hR14]
              refine go_aload_n (i := 0) (pc := 85) dX11_carrier_85 rfl rfl ?_
              refine go_getr2 fl_X11_49 (pc := 86) dX11_carrier_86 (by first | rfl | (apply zL_ci <;> assumption) | (apply zR_ci <;> assumption)) (by first | rfl | (apply zL_in <;> first | assumption | decide) | (apply zR_in <;> first | assumption | decide)) (by first | rfl | (apply zL_fr0 <;> assumption) | (apply zL_fr1 <;> assumption) | (apply zR_fr0 <;> assumption) | (apply zR_fr1 <;> assumption) | (apply zR_fr2 <;> assumption) | (apply zR_fr3 <;> assumption)) ?_
              refine go_iload_n (i := 1) (pc := 89) dX11_carrier_89 rfl rfl ?_
              refine go_callV ml_X11_170 mt_X1_safest (pc := 90) dX11_carrier_90 (c_X1_safest hW hm1) (by first | rfl | (apply zL_cq <;> assumption) | (apply zR_cq <;> assumption)) rfl (by first | rfl | (apply zL_in <;> first | assumption | decide) | (apply zR_in <;> first | assumption | decide)) (by decide) (by decide) rfl rfl (Nat.le_of_ble_eq_true rfl) (fun r σ' hp => ?_)
              obtain ⟨rfl, hD, hW2, hf, -⟩ := hp
              dsimp only [zRet]
              have hC2 := hC.look hz hR14 hf (by simp) rfl hW2
              refine go_iconst (-1) (pc := 93) dX11_carrier_93 (by decide) ?_
              refine go_icmp_ne 101 (pc := 94) dX11_carrier_94 (by decide) (fun h94 => ?_) (fun h94 => ?_)
              · refine go_aload_n (i := 0) (pc := 101) dX11_carrier_101 rfl rfl ?_
                refine go_getr2 fl_X11_42 (pc := 102) dX11_carrier_102 (by first | rfl | (apply zL_ci <;> assumption) | (apply zR_ci <;> assumption)) (by first | rfl | (apply zL_in <;> first | assumption | decide) | (apply zR_in <;> first | assumption | decide)) (by first | rfl | (apply zL_fr0 <;> assumption) | (apply zL_fr1 <;> assumption) | (apply zR_fr0 <;> assumption) | (apply zR_fr1 <;> assumption) | (apply zR_fr2 <;> assumption) | (apply zR_fr3 <;> assumption)) ?_
                refine go_callV ml_X11_173 mt_X1_least (pc := 105) dX11_carrier_105 (c_X1_least) (by first | rfl | (apply zL_cq <;> assumption) | (apply zR_cq <;> assumption)) rfl (by first | rfl | (apply zL_in <;> first | assumption | decide) | (apply zR_in <;> first | assumption | decide)) (by decide) (by decide) rfl rfl (Nat.le_of_ble_eq_true rfl) (fun r σ' hp => ?_)
                obtain ⟨rfl, hσ⟩ := hp
                rw [hσ]
                clear hσ
                dsimp only [zRet]
                rw [hD]
                refine go_ireturn (pc := 108) dX11_carrier_108 rfl ?_
                exact ⟨rfl, hC2, Fr33.of hf (by simp; omega)⟩
              · rw [eM_n (fun q hq => by have h9 : q.1 < ld.1 := (hsl q hq).1; omega)] at h94
                rw [h94]
                refine go_iconst (-1) (pc := 97) dX11_carrier_97 (by decide) ?_
                refine go_goto 108 (pc := 98) dX11_carrier_98 (by decide) ?_
                refine go_ireturn (pc := 108) dX11_carrier_108 rfl ?_
                exact ⟨rfl, hC2, Fr33.of hf (by simp; omega)⟩
            · first | rw [nI_eq (by omega) (by omega)] at h57 | rw [zi_eqN (by omega)] at h57 | rw [zi_Neq (by omega)] at h57 | rw [zi_eq] at h57
              have h57 : w.toInt = 2 := by omega
              rw [if_pos h57]
              refine go_aload_n (i := 0) (pc := 60) dX11_carrier_60 rfl rfl ?_
              refine go_getr2 fl_X11_42 (pc := 61) dX11_carrier_61 (by first | rfl | (apply zL_ci <;> assumption) | (apply zR_ci <;> assumption)) (by first | rfl | (apply zL_in <;> first | assumption | decide) | (apply zR_in <;> first | assumption | decide)) (by first | rfl | (apply zL_fr0 <;> assumption) | (apply zL_fr1 <;> assumption) | (apply zR_fr0 <;> assumption) | (apply zR_fr1 <;> assumption) | (apply zR_fr2 <;> assumption) | (apply zR_fr3 <;> assumption)) ?_
              refine go_aload_n (i := 0) (pc := 64) dX11_carrier_64 rfl rfl ?_
              refine go_getR fl_X11_97 (pc := 65) dX11_carrier_65 rfl ?_
              rw [hR14]
              refine go_aload_n (i := 0) (pc := 68) dX11_carrier_68 rfl rfl ?_
              refine go_getr2 fl_X11_49 (pc := 69) dX11_carrier_69 (by first | rfl | (apply zL_ci <;> assumption) | (apply zR_ci <;> assumption)) (by first | rfl | (apply zL_in <;> first | assumption | decide) | (apply zR_in <;> first | assumption | decide)) (by first | rfl | (apply zL_fr0 <;> assumption) | (apply zL_fr1 <;> assumption) | (apply zR_fr0 <;> assumption) | (apply zR_fr1 <;> assumption) | (apply zR_fr2 <;> assumption) | (apply zR_fr3 <;> assumption)) ?_
              refine go_iload_n (i := 1) (pc := 72) dX11_carrier_72 rfl rfl ?_
              refine go_callV ml_X11_166 mt_X1_goal (pc := 73) dX11_carrier_73 (c_X1_goal hW hm1) (by first | rfl | (apply zL_cq <;> assumption) | (apply zR_cq <;> assumption)) rfl (by first | rfl | (apply zL_in <;> first | assumption | decide) | (apply zR_in <;> first | assumption | decide)) (by decide) (by decide) rfl rfl (Nat.le_of_ble_eq_true rfl) (fun r σ' hp => ?_)
              obtain ⟨rfl, -, hW2, hf, -⟩ := hp
              dsimp only [zRet]
              have hC2 := hC.look hz hR14 hf (by simp) rfl hW2
              refine go_ireturn (pc := 76) dX11_carrier_76 rfl ?_
              exact ⟨rfl, hC2, Fr33.of hf (by simp; omega)⟩
          · first | rw [nI_eq (by omega) (by omega)] at h43 | rw [zi_eqN (by omega)] at h43 | rw [zi_Neq (by omega)] at h43 | rw [zi_eq] at h43
            have h43 : w.toInt = 1 := by omega
            rw [if_pos h43]
            refine go_aload_n (i := 0) (pc := 46) dX11_carrier_46 rfl rfl ?_
            refine go_getr2 fl_X11_19 (pc := 47) dX11_carrier_47 (by first | rfl | (apply zL_ci <;> assumption) | (apply zR_ci <;> assumption)) (by first | rfl | (apply zL_in <;> first | assumption | decide) | (apply zR_in <;> first | assumption | decide)) (by first | rfl | (apply zL_fr0 <;> assumption) | (apply zL_fr1 <;> assumption) | (apply zR_fr0 <;> assumption) | (apply zR_fr1 <;> assumption) | (apply zR_fr2 <;> assumption) | (apply zR_fr3 <;> assumption)) ?_
            refine go_iload_n (i := 1) (pc := 50) dX11_carrier_50 rfl rfl ?_
            refine go_callV ml_X11_163 mt_X0_loadOf (pc := 51) dX11_carrier_51 (c_X0_loadOf hB0 hm1) (by first | rfl | (apply zL_cq <;> assumption) | (apply zR_cq <;> assumption)) rfl (by first | rfl | (apply zL_in <;> first | assumption | decide) | (apply zR_in <;> first | assumption | decide)) (by decide) (by decide) rfl rfl (Nat.le_of_ble_eq_true rfl) (fun r σ' hp => ?_)
            obtain ⟨rfl, hσ⟩ := hp
            rw [hσ]
            clear hσ σ'
            dsimp only [zRet]
            refine go_ireturn (pc := 54) dX11_carrier_54 rfl ?_
            exact ⟨rfl, hC, Fr33.rf⟩
        · first | rw [zb_0d] at h29 | rw [zn_eq0 (by omega)] at h29 | rw [zi_eq0] at h29
          have h29 : w.toInt = 0 := by omega
          rw [if_pos h29]
          refine go_aload_n (i := 0) (pc := 32) dX11_carrier_32 rfl rfl ?_
          refine go_getr2 fl_X11_19 (pc := 33) dX11_carrier_33 (by first | rfl | (apply zL_ci <;> assumption) | (apply zR_ci <;> assumption)) (by first | rfl | (apply zL_in <;> first | assumption | decide) | (apply zR_in <;> first | assumption | decide)) (by first | rfl | (apply zL_fr0 <;> assumption) | (apply zL_fr1 <;> assumption) | (apply zR_fr0 <;> assumption) | (apply zR_fr1 <;> assumption) | (apply zR_fr2 <;> assumption) | (apply zR_fr3 <;> assumption)) ?_
          refine go_iload_n (i := 1) (pc := 36) dX11_carrier_36 rfl rfl ?_
          refine go_callV ml_X11_160 mt_X0_kindOf (pc := 37) dX11_carrier_37 (c_X0_kindOf hB0 hm1) (by first | rfl | (apply zL_cq <;> assumption) | (apply zR_cq <;> assumption)) rfl (by first | rfl | (apply zL_in <;> first | assumption | decide) | (apply zR_in <;> first | assumption | decide)) (by decide) (by decide) rfl rfl (Nat.le_of_ble_eq_true rfl) (fun r σ' hp => ?_)
          obtain ⟨rfl, hσ⟩ := hp
          rw [hσ]
          clear hσ σ'
          dsimp only [zRet]
          refine go_ireturn (pc := 40) dX11_carrier_40 rfl ?_
          exact ⟨rfl, hC, Fr33.rf⟩
      · first | rw [nI_leI (by omega) (by omega)] at h17 | rw [zi_leN (by omega)] at h17 | rw [zi_Nle (by omega)] at h17 | rw [zi_le] at h17
        exfalso; omega

theorem c_X11_row {E : zE} {σ : zT} {tx : Nat × (Nat → Nat)} {bd : Nat × (Nat → Nat) × (Nat → Nat)} {sk : Nat × (Nat → Nat)} {tw : Nat × (Nat → Nat) × (Nat → Nat)} {xs : List Nat} {ld : Nat × (Nat → Nat)} {pa sh : Nat × (Nat → Nat → Nat)} {ru : Nat × (Nat → Nat) × (Nat → Nat)} {to : Nat × (Nat → Int64)} {i : Int32} {v : Int64} (hC : ClsIs σ tx bd sk tw xs ld pa sh ru to) (h : rowA to i = some v) : CalM E 1 yX11_row cX11_row 2 (some .long) [.ref (zA E 0 0), .int i] σ (fun r σ' => r = some (.long v) ∧ ClsIs σ' tx bd sk tw xs ld pa sh ru to ∧ Fr33 σ σ') := by
  refine cal_of_go (own := RX11) rfl (by decide +kernel) (Nat.le_of_ble_eq_true rfl) ?_
  have hT0 := hC.2.2.2.2.2.2.2.2.2
  have ht12 := hT0.1
  have hq : inB i to.1 := Decidable.byContradiction (fun hq => by rw [show rowA to i = none from if_neg hq] at h; cases h)
  rw [show rowA to i = some _ from if_pos hq] at h
  have hv := Option.some.inj h
  subst hv
  clear h
  have q1 : 0 ≤ i.toInt := hq.1
  have q2 : i.toInt < (to.1 : Int) := hq.2
  refine go_iload_n (i := 1) (pc := 0) dX11_row_0 rfl rfl ?_
  refine go_if_lt 15 (pc := 1) dX11_row_1 (by decide) (fun h1 => ?_) (fun h1 => ?_)
  · first | rw [zb_0d] at h1 | rw [zn_lt0 (by omega)] at h1 | rw [zi_lt0] at h1
    exfalso; omega
  · first | rw [zb_0d] at h1 | rw [zn_lt0 (by omega)] at h1 | rw [zi_lt0] at h1
    refine go_iload_n (i := 1) (pc := 4) dX11_row_4 rfl rfl ?_
    refine go_aload_n (i := 0) (pc := 5) dX11_row_5 rfl rfl ?_
    refine go_getr2 fl_X11_83 (pc := 6) dX11_row_6 (by first | rfl | (apply zL_ci <;> assumption) | (apply zR_ci <;> assumption)) (by first | rfl | (apply zL_in <;> first | assumption | decide) | (apply zR_in <;> first | assumption | decide)) (by first | rfl | (apply zL_fr0 <;> assumption) | (apply zL_fr1 <;> assumption) | (apply zR_fr0 <;> assumption) | (apply zR_fr1 <;> assumption) | (apply zR_fr2 <;> assumption) | (apply zR_fr3 <;> assumption)) ?_
    refine go_callV ml_X11_424 mt_X9_size (pc := 9) dX11_row_9 (c_X9_size hT0) (by first | rfl | (apply zL_cq <;> assumption) | (apply zR_cq <;> assumption)) rfl (by first | rfl | (apply zL_in <;> first | assumption | decide) | (apply zR_in <;> first | assumption | decide)) (by decide) (by decide) rfl rfl (Nat.le_of_ble_eq_true rfl) (fun r σ' hp => ?_)
    obtain ⟨rfl, hσ⟩ := hp
    rw [hσ]
    clear hσ σ'
    dsimp only [zRet]
    refine go_icmp_lt 23 (pc := 12) dX11_row_12 (by decide) (fun h12 => ?_) (fun h12 => ?_)
    · first | rw [nI_ltI (by omega) (by omega)] at h12 | rw [zi_ltN (by omega)] at h12 | rw [zi_Nlt (by omega)] at h12 | rw [zi_lt] at h12
      have ei1 := nI_of' (x := i) (by omega)
      generalize hqi1 : i.toInt.toNat = i1 at ei1 ⊢
      have hi1 : i1 < to.1 := by omega
      subst ei1
      refine go_aload_n (i := 0) (pc := 23) dX11_row_23 rfl rfl ?_
      refine go_getr2 fl_X11_83 (pc := 24) dX11_row_24 (by first | rfl | (apply zL_ci <;> assumption) | (apply zR_ci <;> assumption)) (by first | rfl | (apply zL_in <;> first | assumption | decide) | (apply zR_in <;> first | assumption | decide)) (by first | rfl | (apply zL_fr0 <;> assumption) | (apply zL_fr1 <;> assumption) | (apply zR_fr0 <;> assumption) | (apply zR_fr1 <;> assumption) | (apply zR_fr2 <;> assumption) | (apply zR_fr3 <;> assumption)) ?_
      refine go_iload_n (i := 1) (pc := 27) dX11_row_27 rfl rfl ?_
      refine go_callV ml_X11_425 mt_X9_at (pc := 28) dX11_row_28 (c_X9_at hT0 hi1) (by first | rfl | (apply zL_cq <;> assumption) | (apply zR_cq <;> assumption)) rfl (by first | rfl | (apply zL_in <;> first | assumption | decide) | (apply zR_in <;> first | assumption | decide)) (by decide) (by decide) rfl rfl (Nat.le_of_ble_eq_true rfl) (fun r σ' hp => ?_)
      obtain ⟨rfl, hσ⟩ := hp
      rw [hσ]
      clear hσ σ'
      dsimp only [zRet]
      refine go_lreturn (pc := 31) dX11_row_31 rfl ?_
      exact ⟨rfl, hC, Fr33.rf⟩
    · first | rw [nI_ltI (by omega) (by omega)] at h12 | rw [zi_ltN (by omega)] at h12 | rw [zi_Nlt (by omega)] at h12 | rw [zi_lt] at h12
      exfalso; omega
theorem t_X11_mile {E : zE} {σ : zT} {tx : Nat × (Nat → Nat)} {bd : Nat × (Nat → Nat) × (Nat → Nat)} {sk : Nat × (Nat → Nat)} {tw : Nat × (Nat → Nat) × (Nat → Nat)} {xs : List Nat} {ld : Nat × (Nat → Nat)} {pa sh : Nat × (Nat → Nat → Nat)} {ru : Nat × (Nat → Nat) × (Nat → Nat)} {to : Nat × (Nat → Int64)} {m w : Int32} (hC : ClsIs σ tx bd sk tw xs ld pa sh ru to) (h : mileA ld.1 ld.2 m w = none) : CalT E 8 yX11_mile cX11_mile 3 (some .int) [.ref (zA E 0 0), .int m, .int w] σ := by
  refine calT_of (own := RX11) rfl (by decide +kernel) (Nat.le_of_ble_eq_true rfl) ?_
  have hq : ¬ (inB m ld.1 ∧ in0 w 2) := fun hq => by rw [show mileA ld.1 ld.2 m w = some _ from if_pos hq] at h; cases h
  refine gx_aload_n (i := 0) (pc := 0) dX11_mile_0 rfl rfl ?_
  refine gx_getr2 fl_X11_49 (pc := 1) dX11_mile_1 (by first | rfl | (apply zL_ci <;> assumption) | (apply zR_ci <;> assumption)) (by first | rfl | (apply zL_in <;> first | assumption | decide) | (apply zR_in <;> first | assumption | decide)) (by first | rfl | (apply zL_fr0 <;> assumption) | (apply zL_fr1 <;> assumption) | (apply zR_fr0 <;> assumption) | (apply zR_fr1 <;> assumption) | (apply zR_fr2 <;> assumption) | (apply zR_fr3 <;> assumption)) ?_
  refine gx_iload_n (i := 1) (pc := 4) dX11_mile_4 rfl rfl ?_
  refine gx_callV ml_X11_144 mt_X2_has (pc := 5) dX11_mile_5 (c_X2_has rfl hC.2.2.2.2.2.1) (by first | rfl | (apply zL_cq <;> assumption) | (apply zR_cq <;> assumption)) rfl (by first | rfl | (apply zL_in <;> first | assumption | decide) | (apply zR_in <;> first | assumption | decide)) (by decide) (by decide) (by decide) rfl rfl (Nat.le_of_ble_eq_true rfl) (fun r σ' hp => ?_)
  obtain ⟨rfl, hσ⟩ := hp
  rw [hσ]
  clear hσ σ'
  dsimp only [zRet]
  refine gx_if_eq 20 (pc := 8) dX11_mile_8 (by decide) (fun h8 => ?_) (fun h8 => ?_)
  · first | rw [zb_0d] at h8 | rw [zn_eq0 (by omega)] at h8 | rw [zi_eq0] at h8
    exact gx_throw (by decide) (by decide) zk_147 zi_NS dX11_mile_20 dX11_mile_23 dX11_mile_24 dX11_mile_27
  · first | rw [zb_0d] at h8 | rw [zn_eq0 (by omega)] at h8 | rw [zi_eq0] at h8
    refine gx_iload_n (i := 2) (pc := 11) dX11_mile_11 rfl rfl ?_
    refine gx_if_lt 20 (pc := 12) dX11_mile_12 (by decide) (fun h12 => ?_) (fun h12 => ?_)
    · first | rw [zb_0d] at h12 | rw [zn_lt0 (by omega)] at h12 | rw [zi_lt0] at h12
      exact gx_throw (by decide) (by decide) zk_147 zi_NS dX11_mile_20 dX11_mile_23 dX11_mile_24 dX11_mile_27
    · first | rw [zb_0d] at h12 | rw [zn_lt0 (by omega)] at h12 | rw [zi_lt0] at h12
      refine gx_iload_n (i := 2) (pc := 15) dX11_mile_15 rfl rfl ?_
      refine gx_iconst (nI 2) (pc := 16) dX11_mile_16 (by decide) ?_
      refine gx_icmp_le 28 (pc := 17) dX11_mile_17 (by decide) (fun h17 => ?_) (fun h17 => ?_)
      · first | rw [nI_leI (by omega) (by omega)] at h17 | rw [zi_leN (by omega)] at h17 | rw [zi_Nle (by omega)] at h17 | rw [zi_le] at h17
        exact absurd ⟨Decidable.not_not.mp h8, by omega, by omega⟩ hq
      · first | rw [nI_leI (by omega) (by omega)] at h17 | rw [zi_leN (by omega)] at h17 | rw [zi_Nle (by omega)] at h17 | rw [zi_le] at h17
        exact gx_throw (by decide) (by decide) zk_147 zi_NS dX11_mile_20 dX11_mile_23 dX11_mile_24 dX11_mile_27
theorem t_X11_carrier {E : zE} {σ : zT} {tx : Nat × (Nat → Nat)} {bd : Nat × (Nat → Nat) × (Nat → Nat)} {sk : Nat × (Nat → Nat)} {tw : Nat × (Nat → Nat) × (Nat → Nat)} {xs : List Nat} {ld : Nat × (Nat → Nat)} {pa sh : Nat × (Nat → Nat → Nat)} {ru : Nat × (Nat → Nat) × (Nat → Nat)} {to : Nat × (Nat → Int64)} {m w : Int32} (hC : ClsIs σ tx bd sk tw xs ld pa sh ru to) (h : carA (vOf bd sk xs ld.1) ld.2 m w = none) : CalT E 8 yX11_carrier cX11_carrier 3 (some .int) [.ref (zA E 0 0), .int m, .int w] σ := by
  refine calT_of (own := RX11) rfl (by decide +kernel) (Nat.le_of_ble_eq_true rfl) ?_
  have hq : ¬ (inB m bd.1 ∧ in0 w 3) := fun hq => by rw [show carA (vOf bd sk xs ld.1) ld.2 m w = some _ from if_pos hq] at h; cases h
  refine gx_aload_n (i := 0) (pc := 0) dX11_carrier_0 rfl rfl ?_
  refine gx_getr2 fl_X11_19 (pc := 1) dX11_carrier_1 (by first | rfl | (apply zL_ci <;> assumption) | (apply zR_ci <;> assumption)) (by first | rfl | (apply zL_in <;> first | assumption | decide) | (apply zR_in <;> first | assumption | decide)) (by first | rfl | (apply zL_fr0 <;> assumption) | (apply zL_fr1 <;> assumption) | (apply zR_fr0 <;> assumption) | (apply zR_fr1 <;> assumption) | (apply zR_fr2 <;> assumption) | (apply zR_fr3 <;> assumption)) ?_
  refine gx_iload_n (i := 1) (pc := 4) dX11_carrier_4 rfl rfl ?_
  refine gx_callV ml_X11_159 mt_X0_has (pc := 5) dX11_carrier_5 (c_X0_has hC.2.2.1) (by first | rfl | (apply zL_cq <;> assumption) | (apply zR_cq <;> assumption)) rfl (by first | rfl | (apply zL_in <;> first | assumption | decide) | (apply zR_in <;> first | assumption | decide)) (by decide) (by decide) (by decide) rfl rfl (Nat.le_of_ble_eq_true rfl) (fun r σ' hp => ?_)
  obtain ⟨rfl, hσ⟩ := hp
  rw [hσ]
  clear hσ σ'
  dsimp only [zRet]
  refine gx_if_eq 20 (pc := 8) dX11_carrier_8 (by decide) (fun h8 => ?_) (fun h8 => ?_)
  · first | rw [zb_0d] at h8 | rw [zn_eq0 (by omega)] at h8 | rw [zi_eq0] at h8
    exact gx_throw (by decide) (by decide) zk_147 zi_NS dX11_carrier_20 dX11_carrier_23 dX11_carrier_24 dX11_carrier_27
  · first | rw [zb_0d] at h8 | rw [zn_eq0 (by omega)] at h8 | rw [zi_eq0] at h8
    refine gx_iload_n (i := 2) (pc := 11) dX11_carrier_11 rfl rfl ?_
    refine gx_if_lt 20 (pc := 12) dX11_carrier_12 (by decide) (fun h12 => ?_) (fun h12 => ?_)
    · first | rw [zb_0d] at h12 | rw [zn_lt0 (by omega)] at h12 | rw [zi_lt0] at h12
      exact gx_throw (by decide) (by decide) zk_147 zi_NS dX11_carrier_20 dX11_carrier_23 dX11_carrier_24 dX11_carrier_27
    · first | rw [zb_0d] at h12 | rw [zn_lt0 (by omega)] at h12 | rw [zi_lt0] at h12
      refine gx_iload_n (i := 2) (pc := 15) dX11_carrier_15 rfl rfl ?_
      refine gx_iconst (nI 3) (pc := 16) dX11_carrier_16 (by decide) ?_
      refine gx_icmp_le 28 (pc := 17) dX11_carrier_17 (by decide) (fun h17 => ?_) (fun h17 => ?_)
      · first | rw [nI_leI (by omega) (by omega)] at h17 | rw [zi_leN (by omega)] at h17 | rw [zi_Nle (by omega)] at h17 | rw [zi_le] at h17
        exact absurd ⟨Decidable.not_not.mp h8, by omega, by omega⟩ hq
      · first | rw [nI_leI (by omega) (by omega)] at h17 | rw [zi_leN (by omega)] at h17 | rw [zi_Nle (by omega)] at h17 | rw [zi_le] at h17
        exact gx_throw (by decide) (by decide) zk_147 zi_NS dX11_carrier_20 dX11_carrier_23 dX11_carrier_24 dX11_carrier_27
theorem t_X11_mouth {E : zE} {σ : zT} {tx : Nat × (Nat → Nat)} {bd : Nat × (Nat → Nat) × (Nat → Nat)} {sk : Nat × (Nat → Nat)} {tw : Nat × (Nat → Nat) × (Nat → Nat)} {xs : List Nat} {ld : Nat × (Nat → Nat)} {pa sh : Nat × (Nat → Nat → Nat)} {ru : Nat × (Nat → Nat) × (Nat → Nat)} {to : Nat × (Nat → Int64)} {m w : Int32} (hC : ClsIs σ tx bd sk tw xs ld pa sh ru to) (h : mouA tw m w = none) : CalT E 8 yX11_mouth cX11_mouth 3 (some .int) [.ref (zA E 0 0), .int m, .int w] σ := by
  refine calT_of (own := RX11) rfl (by decide +kernel) (Nat.le_of_ble_eq_true rfl) ?_
  have hq : ¬ (inB m tw.1 ∧ in0 w 1) := fun hq => by rw [show mouA tw m w = some _ from if_pos hq] at h; cases h
  refine gx_aload_n (i := 0) (pc := 0) dX11_mouth_0 rfl rfl ?_
  refine gx_getr2 fl_X11_33 (pc := 1) dX11_mouth_1 (by first | rfl | (apply zL_ci <;> assumption) | (apply zR_ci <;> assumption)) (by first | rfl | (apply zL_in <;> first | assumption | decide) | (apply zR_in <;> first | assumption | decide)) (by first | rfl | (apply zL_fr0 <;> assumption) | (apply zL_fr1 <;> assumption) | (apply zR_fr0 <;> assumption) | (apply zR_fr1 <;> assumption) | (apply zR_fr2 <;> assumption) | (apply zR_fr3 <;> assumption)) ?_
  refine gx_iload_n (i := 1) (pc := 4) dX11_mouth_4 rfl rfl ?_
  refine gx_callV ml_X11_176 mt_X10_has (pc := 5) dX11_mouth_5 (c_X10_has hC.2.2.2.2.1) (by first | rfl | (apply zL_cq <;> assumption) | (apply zR_cq <;> assumption)) rfl (by first | rfl | (apply zL_in <;> first | assumption | decide) | (apply zR_in <;> first | assumption | decide)) (by decide) (by decide) (by decide) rfl rfl (Nat.le_of_ble_eq_true rfl) (fun r σ' hp => ?_)
  obtain ⟨rfl, hσ⟩ := hp
  rw [hσ]
  clear hσ σ'
  dsimp only [zRet]
  refine gx_if_eq 20 (pc := 8) dX11_mouth_8 (by decide) (fun h8 => ?_) (fun h8 => ?_)
  · first | rw [zb_0d] at h8 | rw [zn_eq0 (by omega)] at h8 | rw [zi_eq0] at h8
    exact gx_throw (by decide) (by decide) zk_147 zi_NS dX11_mouth_20 dX11_mouth_23 dX11_mouth_24 dX11_mouth_27
  · first | rw [zb_0d] at h8 | rw [zn_eq0 (by omega)] at h8 | rw [zi_eq0] at h8
    refine gx_iload_n (i := 2) (pc := 11) dX11_mouth_11 rfl rfl ?_
    refine gx_if_lt 20 (pc := 12) dX11_mouth_12 (by decide) (fun h12 => ?_) (fun h12 => ?_)
    · first | rw [zb_0d] at h12 | rw [zn_lt0 (by omega)] at h12 | rw [zi_lt0] at h12
      exact gx_throw (by decide) (by decide) zk_147 zi_NS dX11_mouth_20 dX11_mouth_23 dX11_mouth_24 dX11_mouth_27
    · first | rw [zb_0d] at h12 | rw [zn_lt0 (by omega)] at h12 | rw [zi_lt0] at h12
      refine gx_iload_n (i := 2) (pc := 15) dX11_mouth_15 rfl rfl ?_
      refine gx_iconst (nI 1) (pc := 16) dX11_mouth_16 (by decide) ?_
      refine gx_icmp_le 28 (pc := 17) dX11_mouth_17 (by decide) (fun h17 => ?_) (fun h17 => ?_)
      · first | rw [nI_leI (by omega) (by omega)] at h17 | rw [zi_leN (by omega)] at h17 | rw [zi_Nle (by omega)] at h17 | rw [zi_le] at h17
        exact absurd ⟨Decidable.not_not.mp h8, by omega, by omega⟩ hq
      · first | rw [nI_leI (by omega) (by omega)] at h17 | rw [zi_leN (by omega)] at h17 | rw [zi_Nle (by omega)] at h17 | rw [zi_le] at h17
        exact gx_throw (by decide) (by decide) zk_147 zi_NS dX11_mouth_20 dX11_mouth_23 dX11_mouth_24 dX11_mouth_27
theorem t_X11_row {E : zE} {σ : zT} {tx : Nat × (Nat → Nat)} {bd : Nat × (Nat → Nat) × (Nat → Nat)} {sk : Nat × (Nat → Nat)} {tw : Nat × (Nat → Nat) × (Nat → Nat)} {xs : List Nat} {ld : Nat × (Nat → Nat)} {pa sh : Nat × (Nat → Nat → Nat)} {ru : Nat × (Nat → Nat) × (Nat → Nat)} {to : Nat × (Nat → Int64)} {i : Int32} (hC : ClsIs σ tx bd sk tw xs ld pa sh ru to) (h : rowA to i = none) : CalT E 8 yX11_row cX11_row 2 (some .long) [.ref (zA E 0 0), .int i] σ := by
  refine calT_of (own := RX11) rfl (by decide +kernel) (Nat.le_of_ble_eq_true rfl) ?_
  have hT0 := hC.2.2.2.2.2.2.2.2.2
  have ht12 := hT0.1
  have hq : ¬ (inB i to.1) := fun hq => by rw [show rowA to i = some _ from if_pos hq] at h; cases h
  refine gx_iload_n (i := 1) (pc := 0) dX11_row_0 rfl rfl ?_
  refine gx_if_lt 15 (pc := 1) dX11_row_1 (by decide) (fun h1 => ?_) (fun h1 => ?_)
  · first | rw [zb_0d] at h1 | rw [zn_lt0 (by omega)] at h1 | rw [zi_lt0] at h1
    exact gx_throw (by decide) (by decide) zk_147 zi_NS dX11_row_15 dX11_row_18 dX11_row_19 dX11_row_22
  · first | rw [zb_0d] at h1 | rw [zn_lt0 (by omega)] at h1 | rw [zi_lt0] at h1
    refine gx_iload_n (i := 1) (pc := 4) dX11_row_4 rfl rfl ?_
    refine gx_aload_n (i := 0) (pc := 5) dX11_row_5 rfl rfl ?_
    refine gx_getr2 fl_X11_83 (pc := 6) dX11_row_6 (by first | rfl | (apply zL_ci <;> assumption) | (apply zR_ci <;> assumption)) (by first | rfl | (apply zL_in <;> first | assumption | decide) | (apply zR_in <;> first | assumption | decide)) (by first | rfl | (apply zL_fr0 <;> assumption) | (apply zL_fr1 <;> assumption) | (apply zR_fr0 <;> assumption) | (apply zR_fr1 <;> assumption) | (apply zR_fr2 <;> assumption) | (apply zR_fr3 <;> assumption)) ?_
    refine gx_callV ml_X11_424 mt_X9_size (pc := 9) dX11_row_9 (c_X9_size hT0) (by first | rfl | (apply zL_cq <;> assumption) | (apply zR_cq <;> assumption)) rfl (by first | rfl | (apply zL_in <;> first | assumption | decide) | (apply zR_in <;> first | assumption | decide)) (by decide) (by decide) (by decide) rfl rfl (Nat.le_of_ble_eq_true rfl) (fun r σ' hp => ?_)
    obtain ⟨rfl, hσ⟩ := hp
    rw [hσ]
    clear hσ σ'
    dsimp only [zRet]
    refine gx_icmp_lt 23 (pc := 12) dX11_row_12 (by decide) (fun h12 => ?_) (fun h12 => ?_)
    · first | rw [nI_ltI (by omega) (by omega)] at h12 | rw [zi_ltN (by omega)] at h12 | rw [zi_Nlt (by omega)] at h12 | rw [zi_lt] at h12
      exact absurd ⟨by omega, by omega⟩ hq
    · first | rw [nI_ltI (by omega) (by omega)] at h12 | rw [zi_ltN (by omega)] at h12 | rw [zi_Nlt (by omega)] at h12 | rw [zi_lt] at h12
      exact gx_throw (by decide) (by decide) zk_147 zi_NS dX11_row_15 dX11_row_18 dX11_row_19 dX11_row_22
theorem mw_L_mile : zMW yL_mile cL_mile 5 (some .int) [(0, 10, 13, 13)] 4 := ⟨zg1 0 rfl rfl, zg5 47 rfl rfl, ⟨by decide +kernel, by decide +kernel⟩, by decide +kernel, zg5 46 rfl rfl⟩
theorem w_L_mile {E : zE} {σ : zT} {tx : Nat × (Nat → Nat)} {bd : Nat × (Nat → Nat) × (Nat → Nat)} {sk : Nat × (Nat → Nat)} {tw : Nat × (Nat → Nat) × (Nat → Nat)} {xs : List Nat} {ld : Nat × (Nat → Nat)} {pa sh : Nat × (Nat → Nat → Nat)} {ru : Nat × (Nat → Nat) × (Nat → Nat)} {to : Nat × (Nat → Int64)} {m w v : Int32} (hC : ClsIs σ tx bd sk tw xs ld pa sh ru to) (h : mileA ld.1 ld.2 m w = some v) : CalW E 3 yL_mile cL_mile 5 (some .int) [(0, 10, 13, 13)] [.ref (zA E 0 0), .int m, .int w, .ref (zA E 34 1)] σ (fun r σ' => r = some (.int (nI 0)) ∧ ClsIs σ' tx bd sk tw xs ld pa sh ru to ∧ Sm33 σ σ' ∧ σ'.2.2.1 34 0 = v.toInt64) := by
  refine calW_of (own := RL) rfl (by decide +kernel) (Nat.le_of_ble_eq_true rfl) ?_
  refine go_aload_n (i := 3) (pc := 0) dL_mile_0 rfl rfl ?_
  refine go_iconst (nI 0) (pc := 1) dL_mile_1 (by decide) ?_
  refine go_aload_n (i := 0) (pc := 2) dL_mile_2 rfl rfl ?_
  refine go_iload_n (i := 1) (pc := 3) dL_mile_3 rfl rfl ?_
  refine go_iload_n (i := 2) (pc := 4) dL_mile_4 rfl rfl ?_
  refine go_callV ml_L_7 mt_X11_mile (pc := 5) dL_mile_5 (c_X11_mile hC h) (by first | rfl | (apply zL_cq <;> assumption) | (apply zR_cq <;> assumption)) rfl (by first | rfl | (apply zL_in <;> first | assumption | decide) | (apply zR_in <;> first | assumption | decide)) (by decide) (by decide) rfl rfl (Nat.le_of_ble_eq_true rfl) (fun r σ' hp => ?_)
  obtain ⟨rfl, hC2, hF⟩ := hp
  dsimp only [zRet]
  refine go_i2l (pc := 8) dL_mile_8 ?_
  refine go_lastore 0 (pc := 9) dL_mile_9 rfl rfl zl_34 rfl (by decide) ?_
  refine go_goto 17 (pc := 10) dL_mile_10 (by decide) ?_
  refine go_iconst (nI 0) (pc := 17) dL_mile_17 (by decide) ?_
  refine go_ireturn (pc := 18) dL_mile_18 rfl ?_
  exact ⟨rfl, hC2.hi (S := [34]) (FrG.rf.uL (by simp)) (by simp), ⟨(hF 33 (by decide)).1, (hF 33 (by decide)).2.1, by rw [uL_3, if_neg (by decide)]; exact (hF 33 (by decide)).2.2⟩, by rw [uL_3, if_pos rfl, updL_at, if_pos rfl]⟩
theorem v_L_mile {E : zE} {σ : zT} {tx : Nat × (Nat → Nat)} {bd : Nat × (Nat → Nat) × (Nat → Nat)} {sk : Nat × (Nat → Nat)} {tw : Nat × (Nat → Nat) × (Nat → Nat)} {xs : List Nat} {ld : Nat × (Nat → Nat)} {pa sh : Nat × (Nat → Nat → Nat)} {ru : Nat × (Nat → Nat) × (Nat → Nat)} {to : Nat × (Nat → Int64)} {m w : Int32} (hC : ClsIs σ tx bd sk tw xs ld pa sh ru to) (h : mileA ld.1 ld.2 m w = none) : CalV E 9 yL_mile cL_mile 5 (some .int) [(0, 10, 13, 13)] [.ref (zA E 0 0), .int m, .int w, .ref (zA E 34 1)] σ (fun r σ' => r = some (.int (nI 1)) ∧ σ' = σ) := by
  refine calV_of (own := RL) rfl (by decide +kernel) (Nat.le_of_ble_eq_true rfl) ?_
  refine gx_aload_n (i := 3) (pc := 0) dL_mile_0 rfl rfl ?_
  refine gx_iconst (nI 0) (pc := 1) dL_mile_1 (by decide) ?_
  refine gx_aload_n (i := 0) (pc := 2) dL_mile_2 rfl rfl ?_
  refine gx_iload_n (i := 1) (pc := 3) dL_mile_3 rfl rfl ?_
  refine gx_iload_n (i := 2) (pc := 4) dL_mile_4 rfl rfl ?_
  refine gx_callT (pc := 5) ml_L_7 mt_X11_mile dL_mile_5 (t_X11_mile hC h) rfl rfl rfl (by decide) (by decide) (by decide) rfl rfl (Nat.le_of_ble_eq_true rfl) ⟨0, 10, 13, 13⟩ (fun _ _ _ h => h) (by decide) (by decide) zk_L13 (fun q => ?_)
  refine gx_astore (pc := 13) dL_mile_13 (by decide) ?_
  refine gx_iconst (nI 1) (pc := 15) dL_mile_15 (by decide) ?_
  exact gx_vret (pc := 16) dL_mile_16 rfl ⟨rfl, rfl⟩
theorem mw_L_carrier : zMW yL_carrier cL_carrier 5 (some .int) [(0, 10, 13, 13)] 4 := ⟨zg1 0 rfl rfl, zg5 116 rfl rfl, ⟨by decide +kernel, by decide +kernel⟩, by decide +kernel, zg5 115 rfl rfl⟩
theorem w_L_carrier {E : zE} {σ : zT} {tx : Nat × (Nat → Nat)} {bd : Nat × (Nat → Nat) × (Nat → Nat)} {sk : Nat × (Nat → Nat)} {tw : Nat × (Nat → Nat) × (Nat → Nat)} {xs : List Nat} {ld : Nat × (Nat → Nat)} {pa sh : Nat × (Nat → Nat → Nat)} {ru : Nat × (Nat → Nat) × (Nat → Nat)} {to : Nat × (Nat → Int64)} {m w v : Int32} (hC : ClsIs σ tx bd sk tw xs ld pa sh ru to) (h : carA (vOf bd sk xs ld.1) ld.2 m w = some v) : CalW E 6 yL_carrier cL_carrier 5 (some .int) [(0, 10, 13, 13)] [.ref (zA E 0 0), .int m, .int w, .ref (zA E 34 1)] σ (fun r σ' => r = some (.int (nI 0)) ∧ ClsIs σ' tx bd sk tw xs ld pa sh ru to ∧ Sm33 σ σ' ∧ σ'.2.2.1 34 0 = v.toInt64) := by
  refine calW_of (own := RL) rfl (by decide +kernel) (Nat.le_of_ble_eq_true rfl) ?_
  refine go_aload_n (i := 3) (pc := 0) dL_carrier_0 rfl rfl ?_
  refine go_iconst (nI 0) (pc := 1) dL_carrier_1 (by decide) ?_
  refine go_aload_n (i := 0) (pc := 2) dL_carrier_2 rfl rfl ?_
  refine go_iload_n (i := 1) (pc := 3) dL_carrier_3 rfl rfl ?_
  refine go_iload_n (i := 2) (pc := 4) dL_carrier_4 rfl rfl ?_
  refine go_callV ml_L_15 mt_X11_carrier (pc := 5) dL_carrier_5 (c_X11_carrier hC h) (by first | rfl | (apply zL_cq <;> assumption) | (apply zR_cq <;> assumption)) rfl (by first | rfl | (apply zL_in <;> first | assumption | decide) | (apply zR_in <;> first | assumption | decide)) (by decide) (by decide) rfl rfl (Nat.le_of_ble_eq_true rfl) (fun r σ' hp => ?_)
  obtain ⟨rfl, hC2, hF⟩ := hp
  dsimp only [zRet]
  refine go_i2l (pc := 8) dL_carrier_8 ?_
  refine go_lastore 0 (pc := 9) dL_carrier_9 rfl rfl zl_34 rfl (by decide) ?_
  refine go_goto 17 (pc := 10) dL_carrier_10 (by decide) ?_
  refine go_iconst (nI 0) (pc := 17) dL_carrier_17 (by decide) ?_
  refine go_ireturn (pc := 18) dL_carrier_18 rfl ?_
  exact ⟨rfl, hC2.hi (S := [34]) (FrG.rf.uL (by simp)) (by simp), ⟨(hF 33 (by decide)).1, (hF 33 (by decide)).2.1, by rw [uL_3, if_neg (by decide)]; exact (hF 33 (by decide)).2.2⟩, by rw [uL_3, if_pos rfl, updL_at, if_pos rfl]⟩
theorem v_L_carrier {E : zE} {σ : zT} {tx : Nat × (Nat → Nat)} {bd : Nat × (Nat → Nat) × (Nat → Nat)} {sk : Nat × (Nat → Nat)} {tw : Nat × (Nat → Nat) × (Nat → Nat)} {xs : List Nat} {ld : Nat × (Nat → Nat)} {pa sh : Nat × (Nat → Nat → Nat)} {ru : Nat × (Nat → Nat) × (Nat → Nat)} {to : Nat × (Nat → Int64)} {m w : Int32} (hC : ClsIs σ tx bd sk tw xs ld pa sh ru to) (h : carA (vOf bd sk xs ld.1) ld.2 m w = none) : CalV E 9 yL_carrier cL_carrier 5 (some .int) [(0, 10, 13, 13)] [.ref (zA E 0 0), .int m, .int w, .ref (zA E 34 1)] σ (fun r σ' => r = some (.int (nI 1)) ∧ σ' = σ) := by
  refine calV_of (own := RL) rfl (by decide +kernel) (Nat.le_of_ble_eq_true rfl) ?_
  refine gx_aload_n (i := 3) (pc := 0) dL_carrier_0 rfl rfl ?_
  refine gx_iconst (nI 0) (pc := 1) dL_carrier_1 (by decide) ?_
  refine gx_aload_n (i := 0) (pc := 2) dL_carrier_2 rfl rfl ?_
  refine gx_iload_n (i := 1) (pc := 3) dL_carrier_3 rfl rfl ?_
  refine gx_iload_n (i := 2) (pc := 4) dL_carrier_4 rfl rfl ?_
  refine gx_callT (pc := 5) ml_L_15 mt_X11_carrier dL_carrier_5 (t_X11_carrier hC h) rfl rfl rfl (by decide) (by decide) (by decide) rfl rfl (Nat.le_of_ble_eq_true rfl) ⟨0, 10, 13, 13⟩ (fun _ _ _ h => h) (by decide) (by decide) zk_L13 (fun q => ?_)
  refine gx_astore (pc := 13) dL_carrier_13 (by decide) ?_
  refine gx_iconst (nI 1) (pc := 15) dL_carrier_15 (by decide) ?_
  exact gx_vret (pc := 16) dL_carrier_16 rfl ⟨rfl, rfl⟩
theorem mw_L_mouth : zMW yL_mouth cL_mouth 5 (some .int) [(0, 10, 13, 13)] 4 := ⟨zg1 0 rfl rfl, zg5 123 rfl rfl, ⟨by decide +kernel, by decide +kernel⟩, by decide +kernel, zg5 122 rfl rfl⟩
theorem w_L_mouth {E : zE} {σ : zT} {tx : Nat × (Nat → Nat)} {bd : Nat × (Nat → Nat) × (Nat → Nat)} {sk : Nat × (Nat → Nat)} {tw : Nat × (Nat → Nat) × (Nat → Nat)} {xs : List Nat} {ld : Nat × (Nat → Nat)} {pa sh : Nat × (Nat → Nat → Nat)} {ru : Nat × (Nat → Nat) × (Nat → Nat)} {to : Nat × (Nat → Int64)} {m w v : Int32} (hC : ClsIs σ tx bd sk tw xs ld pa sh ru to) (h : mouA tw m w = some v) : CalW E 3 yL_mouth cL_mouth 5 (some .int) [(0, 10, 13, 13)] [.ref (zA E 0 0), .int m, .int w, .ref (zA E 34 1)] σ (fun r σ' => r = some (.int (nI 0)) ∧ ClsIs σ' tx bd sk tw xs ld pa sh ru to ∧ Sm33 σ σ' ∧ σ'.2.2.1 34 0 = v.toInt64) := by
  refine calW_of (own := RL) rfl (by decide +kernel) (Nat.le_of_ble_eq_true rfl) ?_
  refine go_aload_n (i := 3) (pc := 0) dL_mouth_0 rfl rfl ?_
  refine go_iconst (nI 0) (pc := 1) dL_mouth_1 (by decide) ?_
  refine go_aload_n (i := 0) (pc := 2) dL_mouth_2 rfl rfl ?_
  refine go_iload_n (i := 1) (pc := 3) dL_mouth_3 rfl rfl ?_
  refine go_iload_n (i := 2) (pc := 4) dL_mouth_4 rfl rfl ?_
  refine go_callV ml_L_18 mt_X11_mouth (pc := 5) dL_mouth_5 (c_X11_mouth hC h) (by first | rfl | (apply zL_cq <;> assumption) | (apply zR_cq <;> assumption)) rfl (by first | rfl | (apply zL_in <;> first | assumption | decide) | (apply zR_in <;> first | assumption | decide)) (by decide) (by decide) rfl rfl (Nat.le_of_ble_eq_true rfl) (fun r σ' hp => ?_)
  obtain ⟨rfl, hC2, hF⟩ := hp
  dsimp only [zRet]
  refine go_i2l (pc := 8) dL_mouth_8 ?_
  refine go_lastore 0 (pc := 9) dL_mouth_9 rfl rfl zl_34 rfl (by decide) ?_
  refine go_goto 17 (pc := 10) dL_mouth_10 (by decide) ?_
  refine go_iconst (nI 0) (pc := 17) dL_mouth_17 (by decide) ?_
  refine go_ireturn (pc := 18) dL_mouth_18 rfl ?_
  exact ⟨rfl, hC2.hi (S := [34]) (FrG.rf.uL (by simp)) (by simp), ⟨(hF 33 (by decide)).1, (hF 33 (by decide)).2.1, by rw [uL_3, if_neg (by decide)]; exact (hF 33 (by decide)).2.2⟩, by rw [uL_3, if_pos rfl, updL_at, if_pos rfl]⟩
theorem v_L_mouth {E : zE} {σ : zT} {tx : Nat × (Nat → Nat)} {bd : Nat × (Nat → Nat) × (Nat → Nat)} {sk : Nat × (Nat → Nat)} {tw : Nat × (Nat → Nat) × (Nat → Nat)} {xs : List Nat} {ld : Nat × (Nat → Nat)} {pa sh : Nat × (Nat → Nat → Nat)} {ru : Nat × (Nat → Nat) × (Nat → Nat)} {to : Nat × (Nat → Int64)} {m w : Int32} (hC : ClsIs σ tx bd sk tw xs ld pa sh ru to) (h : mouA tw m w = none) : CalV E 9 yL_mouth cL_mouth 5 (some .int) [(0, 10, 13, 13)] [.ref (zA E 0 0), .int m, .int w, .ref (zA E 34 1)] σ (fun r σ' => r = some (.int (nI 1)) ∧ σ' = σ) := by
  refine calV_of (own := RL) rfl (by decide +kernel) (Nat.le_of_ble_eq_true rfl) ?_
  refine gx_aload_n (i := 3) (pc := 0) dL_mouth_0 rfl rfl ?_
  refine gx_iconst (nI 0) (pc := 1) dL_mouth_1 (by decide) ?_
  refine gx_aload_n (i := 0) (pc := 2) dL_mouth_2 rfl rfl ?_
  refine gx_iload_n (i := 1) (pc := 3) dL_mouth_3 rfl rfl ?_
  refine gx_iload_n (i := 2) (pc := 4) dL_mouth_4 rfl rfl ?_
  refine gx_callT (pc := 5) ml_L_18 mt_X11_mouth dL_mouth_5 (t_X11_mouth hC h) rfl rfl rfl (by decide) (by decide) (by decide) rfl rfl (Nat.le_of_ble_eq_true rfl) ⟨0, 10, 13, 13⟩ (fun _ _ _ h => h) (by decide) (by decide) zk_L13 (fun q => ?_)
  refine gx_astore (pc := 13) dL_mouth_13 (by decide) ?_
  refine gx_iconst (nI 1) (pc := 15) dL_mouth_15 (by decide) ?_
  exact gx_vret (pc := 16) dL_mouth_16 rfl ⟨rfl, rfl⟩
theorem mw_L_row : zMW yL_row cL_row 4 (some .int) [(0, 8, 11, 13)] 3 := ⟨zg1 0 rfl rfl, zg5 133 rfl rfl, ⟨by decide +kernel, by decide +kernel⟩, by decide +kernel, zg5 132 rfl rfl⟩
theorem w_L_row {E : zE} {σ : zT} {tx : Nat × (Nat → Nat)} {bd : Nat × (Nat → Nat) × (Nat → Nat)} {sk : Nat × (Nat → Nat)} {tw : Nat × (Nat → Nat) × (Nat → Nat)} {xs : List Nat} {ld : Nat × (Nat → Nat)} {pa sh : Nat × (Nat → Nat → Nat)} {ru : Nat × (Nat → Nat) × (Nat → Nat)} {to : Nat × (Nat → Int64)} {i : Int32} {v : Int64} (hC : ClsIs σ tx bd sk tw xs ld pa sh ru to) (h : rowA to i = some v) : CalW E 2 yL_row cL_row 4 (some .int) [(0, 8, 11, 13)] [.ref (zA E 0 0), .int i, .ref (zA E 34 1)] σ (fun r σ' => r = some (.int (nI 0)) ∧ ClsIs σ' tx bd sk tw xs ld pa sh ru to ∧ Sm33 σ σ' ∧ σ'.2.2.1 34 0 = v) := by
  refine calW_of (own := RL) rfl (by decide +kernel) (Nat.le_of_ble_eq_true rfl) ?_
  refine go_aload_n (i := 2) (pc := 0) dL_row_0 rfl rfl ?_
  refine go_iconst (nI 0) (pc := 1) dL_row_1 (by decide) ?_
  refine go_aload_n (i := 0) (pc := 2) dL_row_2 rfl rfl ?_
  refine go_iload_n (i := 1) (pc := 3) dL_row_3 rfl rfl ?_
  refine go_callV ml_L_21 mt_X11_row (pc := 4) dL_row_4 (c_X11_row hC h) (by first | rfl | (apply zL_cq <;> assumption) | (apply zR_cq <;> assumption)) rfl (by first | rfl | (apply zL_in <;> first | assumption | decide) | (apply zR_in <;> first | assumption | decide)) (by decide) (by decide) rfl rfl (Nat.le_of_ble_eq_true rfl) (fun r σ' hp => ?_)
  obtain ⟨rfl, hC2, hF⟩ := hp
  dsimp only [zRet]
  refine go_lastore 0 (pc := 7) dL_row_7 rfl rfl zl_34 rfl (by decide) ?_
  refine go_goto 14 (pc := 8) dL_row_8 (by decide) ?_
  refine go_iconst (nI 0) (pc := 14) dL_row_14 (by decide) ?_
  refine go_ireturn (pc := 15) dL_row_15 rfl ?_
  exact ⟨rfl, hC2.hi (S := [34]) (FrG.rf.uL (by simp)) (by simp), ⟨(hF 33 (by decide)).1, (hF 33 (by decide)).2.1, by rw [uL_3, if_neg (by decide)]; exact (hF 33 (by decide)).2.2⟩, by rw [uL_3, if_pos rfl, updL_at, if_pos rfl]⟩
theorem v_L_row {E : zE} {σ : zT} {tx : Nat × (Nat → Nat)} {bd : Nat × (Nat → Nat) × (Nat → Nat)} {sk : Nat × (Nat → Nat)} {tw : Nat × (Nat → Nat) × (Nat → Nat)} {xs : List Nat} {ld : Nat × (Nat → Nat)} {pa sh : Nat × (Nat → Nat → Nat)} {ru : Nat × (Nat → Nat) × (Nat → Nat)} {to : Nat × (Nat → Int64)} {i : Int32} (hC : ClsIs σ tx bd sk tw xs ld pa sh ru to) (h : rowA to i = none) : CalV E 9 yL_row cL_row 4 (some .int) [(0, 8, 11, 13)] [.ref (zA E 0 0), .int i, .ref (zA E 34 1)] σ (fun r σ' => r = some (.int (nI 1)) ∧ σ' = σ) := by
  refine calV_of (own := RL) rfl (by decide +kernel) (Nat.le_of_ble_eq_true rfl) ?_
  refine gx_aload_n (i := 2) (pc := 0) dL_row_0 rfl rfl ?_
  refine gx_iconst (nI 0) (pc := 1) dL_row_1 (by decide) ?_
  refine gx_aload_n (i := 0) (pc := 2) dL_row_2 rfl rfl ?_
  refine gx_iload_n (i := 1) (pc := 3) dL_row_3 rfl rfl ?_
  refine gx_callT (pc := 4) ml_L_21 mt_X11_row dL_row_4 (t_X11_row hC h) rfl rfl rfl (by decide) (by decide) (by decide) rfl rfl (Nat.le_of_ble_eq_true rfl) ⟨0, 8, 11, 13⟩ (fun _ _ _ h => h) (by decide) (by decide) zk_L13 (fun q => ?_)
  refine gx_astore_n (i := 3) (pc := 11) dL_row_11 rfl (by decide) ?_
  refine gx_iconst (nI 1) (pc := 12) dL_row_12 (by decide) ?_
  exact gx_vret (pc := 13) dL_row_13 rfl ⟨rfl, rfl⟩

