/-! constructors: what is given beside the good words -/
def kNl : List (String × Nat × MethodName) := [(RX11, 9, yX8_init), (RX11, 18, yX0_init), (RX11, 32, yX10_init), (RX11, 48, yX2_init), (RX11, 75, yX5_init), (RX11, 82, yX9_init), (RX3, 15, yX2_init), (RX6, 15, yX2_init)]
def kN (U : State) : Prop := ∀ q ∈ kNl, va_Nw (.methodLinkNest q.1 q.2.1 q.2.2 RX11) U
def kF (E : zE) (U : State) (H : Heap) : Prop := zF E U H ∧ kN U ∧ va_AO RX2 U
theorem kF.to {E : zE} {s U : State} {H : Heap} (h : kF E s s.heap) (hW : s.WarmedH U.vm) (hq : ∀ a : Nat, a < s.heap.size → ¬ zFr E a → H[a]? = s.heap[a]?) : kF E U H :=
  ⟨h.1.to hW hq, fun q hm => (h.2.1 q hm).warmM hW, h.2.2.moved hW.alike⟩
theorem kF.same {E : zE} {s U : State} {H : Heap} (h : kF E s H) (hv : s.vm = U.vm) : kF E U H :=
  have ha : s.vm.Alike U.vm := hv ▸ Vm.Alike.refl s.vm
  ⟨h.1.same hv, fun q hm => (h.2.1 q hm).same rfl hv, h.2.2.moved ha⟩
def kCx (E : zE) (A : Nat → Prop) (own : String) (cc : ByteArray) (nL : Nat) (ret : Option FieldType) (J : Launch → State → Array Value → Method → Code → Prop) (l : Launch) (p : Program) (s : State) (m : MethodId) (args : Array Value) (meth : Method) (c : Code) : Prop :=
  p.tables.exec = Jvm.exec ∧ c.code = cc ∧ c.maxLocals = nL ∧ meth.sig.returnType = ret ∧ meth.locks = false ∧ s.vm.findClass own = some m.cls ∧ (∀ w ∈ zG, w.before args s = true) ∧ va_K (zD E) vwCl (zTy E) s ∧ kF E s s.heap ∧ (∀ q, s.heap.size ≤ q → A q) ∧ (∀ q, A q → zFr E q) ∧ J l s args meth c
def GoC (E : zE) (A : Nat → Prop) (R : Room) (cz sz : Nat) (own : String) (cc : ByteArray) (nL : Nat) (ret : Option FieldType) (J : Launch → State → Array Value → Method → Code → Prop) (Q : List Frame → Array Value → State → State → Prop) (w : va_W) (pc : Nat) (lv : List (Nat × Value)) (st : List Value) : Prop :=
  ∀ (l : Launch) (p : Program) (e : Env) (s : State) (m : MethodId) (args : Array Value) (below : List Frame) (meth : Method) (c : Code) (H : Heap) (locs : List Loc) (ls : Array Slot),
    kCx E A own cc nL ret J l p s m args meth c → lv_has ls nL lv → va_P (zD E) vwCl w H → va_D A w → va_S A s.heap H locs →
    W p l e R s m args below meth c H locs cz sz (Q below args s) (F0 m pc ls st)
def kRm (d mc ms : Nat) : Room := { frames := d, cells := mc, slots := ms, locals := 48 * d }
def kPre (E : zE) (w : va_W) (sz : Nat) (U : State) : Prop := U.heap.size = sz ∧ va_P (zD E) vwCl w U.heap ∧ va_K (zD E) vwCl (zTy E) U ∧ va_D (fun _ => True) w ∧ kF E U U.heap
def kQ (E : zE) (A : Nat → Prop) (Post : va_W → Prop) : Array Value → State → Outcome → State → Prop := fun _ st oc t =>
  (∃ w1 : va_W, oc = .returned none ∧ Post w1 ∧ va_P (zD E) vwCl w1 t.heap ∧ va_D A w1) ∧ va_F A st t
/-- y takes the cells w0 to cells of which Post holds, and makes mc cells of ms slots -/
def CtM (E : zE) (d : Nat) (y : MethodName) (cc : ByteArray) (nL : Nat) (w0 : va_W) (args : List Value) (Post : va_W → Prop) (mc ms : Nat) : Prop :=
  ∀ (l : Launch) (sz : Nat), (∀ (k : Nat) (q : Nat × va_E), w0[k]? = some q → zFr E q.1) → zS E ≤ sz → Met l y (.code y cc nL none :: zG) (kRm d mc ms) (va_Pc args (kPre E w0 sz)) (kQ E (va_A w0 sz) Post) mc ms (va_A w0 sz)
abbrev kJ (y : MethodName) : Launch → State → Array Value → Method → Code → Prop := fun _ _ _ meth _ => meth.name = y.name
abbrev kE (E : zE) (A : Nat → Prop) (Post : va_W → Prop) (mc ms : Nat) : List Frame → Array Value → State → State → Prop := fun below args s => MQ below (kQ E A Post) args s mc ms A
section GcRules
variable {E : zE} {A : Nat → Prop} {R : Room} {cz sz : Nat} {own : String} {cc : ByteArray} {nL : Nat} {ret : Option FieldType} {J : Launch → State → Array Value → Method → Code → Prop} {Q : List Frame → Array Value → State → State → Prop} {w : va_W} {pc : Nat} {lv : List (Nat × Value)} {st : List Value}
theorem gc_iconst {n : Int} (v : Int32) (hd : decode cc pc = .ok (.iconst n, 1)) (hv : Int32.ofInt n = v) (k : GoC E A R cz sz own cc nL ret J Q w (pc + 1) lv (.int v :: st)) : GoC E A R cz sz own cc nL ret J Q w pc lv (st) :=
  fun l p e s m args below meth c H locs ls C hl hP hD hS => lv_iconst C.1 C.2.1 hd hv (k l p e s m args below meth c H locs ls C hl hP hD hS)
theorem gc_bipush {n : Int} (v : Int32) (hd : decode cc pc = .ok (.bipush n, 2)) (hv : (Int8.ofInt n).toInt32 = v) (k : GoC E A R cz sz own cc nL ret J Q w (pc + 2) lv (.int v :: st)) : GoC E A R cz sz own cc nL ret J Q w pc lv (st) :=
  fun l p e s m args below meth c H locs ls C hl hP hD hS => lv_bipush C.1 C.2.1 hd hv (k l p e s m args below meth c H locs ls C hl hP hD hS)
theorem gc_sipush {n : Int} (v : Int32) (hd : decode cc pc = .ok (.sipush n, 3)) (hv : (Int16.ofInt n).toInt32 = v) (k : GoC E A R cz sz own cc nL ret J Q w (pc + 3) lv (.int v :: st)) : GoC E A R cz sz own cc nL ret J Q w pc lv (st) :=
  fun l p e s m args below meth c H locs ls C hl hP hD hS => lv_sipush C.1 C.2.1 hd hv (k l p e s m args below meth c H locs ls C hl hP hD hS)
theorem gc_iload_n {j : Fin 4} {i : Nat} {x : Int32} (hd : decode cc pc = .ok (.iload_n j, 1)) (hi : (j : Nat) = i) (hv : zLk lv i = some (.int x)) (k : GoC E A R cz sz own cc nL ret J Q w (pc + 1) lv (.int x :: st)) : GoC E A R cz sz own cc nL ret J Q w pc lv (st) :=
  fun l p e s m args below meth c H locs ls C hl hP hD hS => lv_iload_n C.1 C.2.1 hd hi (z_lk hl hv) (k l p e s m args below meth c H locs ls C hl hP hD hS)
theorem gc_aload_n {j : Fin 4} {i : Nat} {x : Nat} (hd : decode cc pc = .ok (.aload_n j, 1)) (hi : (j : Nat) = i) (hv : zLk lv i = some (.ref x)) (k : GoC E A R cz sz own cc nL ret J Q w (pc + 1) lv (.ref x :: st)) : GoC E A R cz sz own cc nL ret J Q w pc lv (st) :=
  fun l p e s m args below meth c H locs ls C hl hP hD hS => lv_aload_n C.1 C.2.1 hd hi (z_lk hl hv) (k l p e s m args below meth c H locs ls C hl hP hD hS)
theorem gc_dup {v : Value} (hd : decode cc pc = .ok (.dup, 1)) (hv : v.category = 1) (k : GoC E A R cz sz own cc nL ret J Q w (pc + 1) lv (v :: v :: st)) : GoC E A R cz sz own cc nL ret J Q w pc lv (v :: st) :=
  fun l p e s m args below meth c H locs ls C hl hP hD hS => lv_dup C.1 C.2.1 hd hv (k l p e s m args below meth c H locs ls C hl hP hD hS)
theorem gc_iadd {x y : Int32} (hd : decode cc pc = .ok (.iadd, 1)) (k : GoC E A R cz sz own cc nL ret J Q w (pc + 1) lv (.int (x + y) :: st)) : GoC E A R cz sz own cc nL ret J Q w pc lv (.int y :: .int x :: st) :=
  fun l p e s m args below meth c H locs ls C hl hP hD hS => lv_iadd C.1 C.2.1 hd (k l p e s m args below meth c H locs ls C hl hP hD hS)
theorem gc_istore_n {j : Fin 4} {i : Nat} {x : Int32} (hd : decode cc pc = .ok (.istore_n j, 1)) (hi : (j : Nat) = i) (hn : i < nL) (k : GoC E A R cz sz own cc nL ret J Q w (pc + 1) (zSt1 lv i (.int x)) (st)) : GoC E A R cz sz own cc nL ret J Q w pc lv (.int x :: st) :=
  fun l p e s m args below meth c H locs ls C hl hP hD hS => lv_istore_n C.1 C.2.1 hd hi hl hn rfl (fun ls2 h2 => k l p e s m args below meth c H locs ls2 C (z_zSt1 h2) hP hD hS)
theorem gc_astore_n {j : Fin 4} {i : Nat} {x : Nat} (hd : decode cc pc = .ok (.astore_n j, 1)) (hi : (j : Nat) = i) (hn : i < nL) (k : GoC E A R cz sz own cc nL ret J Q w (pc + 1) (zSt1 lv i (.ref x)) (st)) : GoC E A R cz sz own cc nL ret J Q w pc lv (.ref x :: st) :=
  fun l p e s m args below meth c H locs ls C hl hP hD hS => lv_astore_n C.1 C.2.1 hd hi hl hn rfl (fun ls2 h2 => k l p e s m args below meth c H locs ls2 C (z_zSt1 h2) hP hD hS)
theorem gc_istore {i : Nat} {x : Int32} (hd : decode cc pc = .ok (.istore i, 2)) (hn : i < nL) (k : GoC E A R cz sz own cc nL ret J Q w (pc + 2) (zSt1 lv i (.int x)) (st)) : GoC E A R cz sz own cc nL ret J Q w pc lv (.int x :: st) :=
  fun l p e s m args below meth c H locs ls C hl hP hD hS => lv_istore C.1 C.2.1 hd hl hn rfl (fun ls2 h2 => k l p e s m args below meth c H locs ls2 C (z_zSt1 h2) hP hD hS)
theorem gc_iinc {i : Nat} {n : Int} {x : Int32} (v : Int32) (hd : decode cc pc = .ok (.iinc i n, 3)) (hx : zLk lv i = some (.int x)) (hv : x + Int32.ofInt n = v) (hn : i < nL) (k : GoC E A R cz sz own cc nL ret J Q w (pc + 3) (zSt1 lv i (.int v)) (st)) : GoC E A R cz sz own cc nL ret J Q w pc lv (st) :=
  fun l p e s m args below meth c H locs ls C hl hP hD hS => by
    obtain ⟨q, hq⟩ := z_lkp hx
    exact lv_iinc C.1 C.2.1 hd hl hq hv hn rfl (fun ls2 h2 => k l p e s m args below meth c H locs ls2 C (z_zSt1 h2) hP hD hS)
theorem gc_if_lt {x : Int32} {off : Int} (tgt : Nat) (hd : decode cc pc = .ok (.ifCond .lt off, 3)) (ht : (pc : Int) + off = (tgt : Int)) (kt : x < 0 → GoC E A R cz sz own cc nL ret J Q w tgt lv (st)) (kf : ¬ x < 0 → GoC E A R cz sz own cc nL ret J Q w (pc + 3) lv (st)) : GoC E A R cz sz own cc nL ret J Q w pc lv (.int x :: st) :=
  fun l p e s m args below meth c H locs ls C hl hP hD hS => lv_if_lt C.1 C.2.1 hd ht (fun q => kt q l p e s m args below meth c H locs ls C hl hP hD hS) (fun q => kf q l p e s m args below meth c H locs ls C hl hP hD hS)
theorem gc_icmp_ge {x y : Int32} {off : Int} (tgt : Nat) (hd : decode cc pc = .ok (.if_icmp .ge off, 3)) (ht : (pc : Int) + off = (tgt : Int)) (kt : y ≤ x → GoC E A R cz sz own cc nL ret J Q w tgt lv (st)) (kf : ¬ y ≤ x → GoC E A R cz sz own cc nL ret J Q w (pc + 3) lv (st)) : GoC E A R cz sz own cc nL ret J Q w pc lv (.int y :: .int x :: st) :=
  fun l p e s m args below meth c H locs ls C hl hP hD hS => lv_icmp_ge C.1 C.2.1 hd ht (fun q => kt q l p e s m args below meth c H locs ls C hl hP hD hS) (fun q => kf q l p e s m args below meth c H locs ls C hl hP hD hS)
theorem gc_goto {off : Int} (tgt : Nat) (hd : decode cc pc = .ok (.goto off, 3)) (ht : (pc : Int) + off = (tgt : Int)) (k : GoC E A R cz sz own cc nL ret J Q w tgt lv (st)) : GoC E A R cz sz own cc nL ret J Q w pc lv (st) :=
  fun l p e s m args below meth c H locs ls C hl hP hD hS => lv_goto C.1 C.2.1 hd ht (k l p e s m args below meth c H locs ls C hl hP hD hS)
theorem gc_at {pc2 : Nat} {lv2 : List (Nat × Value)} {st2 : List Value} (h : pc = pc2) (h2 : lv = lv2) (h3 : st = st2) (k : GoC E A R cz sz own cc nL ret J Q w pc2 lv2 st2) : GoC E A R cz sz own cc nL ret J Q w pc lv st := by
  subst h; subst h2; subst h3; exact k
theorem gc_iaddN {x y : Nat} (hd : decode cc pc = .ok (.iadd, 1)) (k : GoC E A R cz sz own cc nL ret J Q w (pc + 1) lv (.int (nI (x + y)) :: st)) : GoC E A R cz sz own cc nL ret J Q w pc lv (.int (nI y) :: .int (nI x) :: st) := gc_iadd hd (by rw [nI_add]; exact k)
theorem gc_iincN {i x : Nat} (hd : decode cc pc = .ok (.iinc i 1, 3)) (hx : zLk lv i = some (.int (nI x))) (hn : i < nL) (k : GoC E A R cz sz own cc nL ret J Q w (pc + 3) (zSt1 lv i (.int (nI (x + 1)))) st) : GoC E A R cz sz own cc nL ret J Q w pc lv st := gc_iinc (nI (x + 1)) hd hx (nI_1 x) hn k
theorem gc_drop (ks : List Nat) {lv2 : List (Nat × Value)} (hl : lv_pick lv ks = lv2) (k : GoC E A R cz sz own cc nL ret J Q w pc lv2 st) : GoC E A R cz sz own cc nL ret J Q w pc lv st :=
  fun l p e s m args below meth c H locs ls C h0 hP hD hS => k l p e s m args below meth c H locs ls C (lv_sub h0 ks hl) hP hD hS
theorem ctM_of {d : Nat} {y : MethodName} {args : List Value} {w0 : va_W} {Post : va_W → Prop} {mc ms : Nat} (ho : y.cls = own) (hy : plainName y.cls = true) (hlen : (lg_sl args).length ≤ nL)
    (hG : ∀ A : Nat → Prop, GoC E A (kRm d mc ms) 0 0 own cc nL none (kJ y) (kE E A Post mc ms) w0 0 (lv_args 0 args) []) : CtM E d y cc nL w0 args Post mc ms := by
  subst ho
  intro l sz hw0 hsz
  refine Met.ofW (cc := cc) (maxL := nL) (ret := none) hy rfl ?_
  intro p e s m a below meth c s₁ B hml hv
  obtain ⟨rfl, hz, hP, hK, hD, hF⟩ := hv
  subst hz
  have hts := atoms_spec (ws := .code y cc nL none :: zG) B.pre
  have hown : s.vm.findClass y.cls = some m.cls := findClass_of_methodNamed B.named
  have hl := lv_entry args (n := nL) hlen
  rw [lg_entry_eq]
  exact hG (va_A w0 s.heap.size) l p e s m args.toArray below meth c s.heap [] _ ⟨B.exec, B.bytes, hml, B.returns, B.notSynchronized, hown, fun w hw => hts w (List.mem_cons_of_mem _ hw), hK, hF, fun q h => Or.inr h, fun q h => by
    rcases h with ⟨k, e, h⟩ | h
    · exact hw0 k (q, e) h
    · exact Nat.le_trans hsz h, (name_of_methodNamed B.named B.method).1⟩ hl hP hD.self va_S.rf
theorem gc_widen {k n : Nat} (h1 : cz ≤ k) (h2 : sz ≤ n) (kk : GoC E A R k n own cc nL ret J Q w pc lv st) : GoC E A R cz sz own cc nL ret J Q w pc lv st :=
  fun l p e s m args below meth c H locs ls C hl hP hD hS => W.widen h1 h2 (kk l p e s m args below meth c H locs ls C hl hP hD hS)
theorem gc_world {w2 : va_W} (h : w = w2) (kk : GoC E A R cz sz own cc nL ret J Q w2 pc lv st) : GoC E A R cz sz own cc nL ret J Q w pc lv st := h ▸ kk
theorem gc_return {Post : va_W → Prop} {mc ms : Nat} (hd : decode cc pc = .ok (.return_, 1)) (hr : ret = none) (h1 : cz ≤ mc) (h2 : sz ≤ ms) (hp : Post w) : GoC E A R cz sz own cc nL ret J (kE E A Post mc ms) w pc lv [] :=
  fun l p e s m args below meth c H locs ls C hl hP hD hS => W.widen h1 h2 (W.vret C.1 C.2.1 (C.2.2.2.1.trans hr) (fun t ht _ => ⟨⟨w, rfl, hp, by rw [ht]; exact hP, hD⟩, hS.F ht⟩) hS.2.2 hd C.2.2.2.2.1)
theorem gc_obj {idx a : Nat} (hl : Cond.methodLink own idx objectInit ∈ zG) (hi : Cond.instanceMethod objectInit ∈ zG) (hc : Cond.code objectInit ⟨#[0xb1]⟩ 1 none ∈ zG) (hd : decode cc pc = .ok (.invokespecial idx, 3)) (hf : 1 ≤ R.frames) (hlo : (st.map fun v => v.category).sum + 12 ≤ R.locals)
    (kk : GoC E A R cz sz own cc nL ret J Q w (pc + 3) lv st) : GoC E A R cz sz own cc nL ret J Q w pc lv (.ref a :: st) :=
  fun l p e s m args below meth c H locs ls C hls hP hD hS => W.objInit C.1 C.2.1 C.2.2.2.2.2.1 (C.2.2.2.2.2.2.1 _ hl) (C.2.2.2.2.2.2.1 _ hi) (C.2.2.2.2.2.2.1 _ hc) (g := F0 m pc ls (.ref a :: st)) rfl (hls.1.trans C.2.2.1.symm) rfl hd hf (by
    show 2 * JFrame.monitorRoom _ + _ + 12 ≤ _
    have h0 : JFrame.monitorRoom (F0 m pc ls (.ref a :: st)) = 0 := rfl
    omega) (kk l p e s m args below meth c H locs ls C hls hP hD hS)
/-- a final field of the thing that is made, at the list's head -/
def kFP (own : String) (idx ci f : Nat) (ty : FieldType) : Prop := ∃ (C : String) (T : u_T) (N : Nat), vwCl[ci]? = some (C, T, N) ∧ f < N ∧ Cond.fieldLink own idx (T f).1 (T f).2.1 (T f).2.2.1 ∈ zG ∧ (T f).2.2.2 = true ∧ (T f).1 = own ∧ parseFieldDescriptor (T f).2.2.1 = some ty
theorem gc_putF {idx ci f a : Nat} {ty : FieldType} {v : Value} {fs : List Value} {tl : va_W} (hJ : ∀ l s args meth c, J l s args meth c → meth.name = "<init>") (hw : kFP own idx ci f ty) (hd : decode cc pc = .ok (.putfield idx, 3)) (hn : narrow ty v = v) (hfit : fits ty v = true) (hl : f < fs.length)
    (kk : GoC E A R cz sz own cc nL ret J Q ((a, .inr (ci, fs.set f v)) :: tl) (pc + 3) lv st) : GoC E A R cz sz own cc nL ret J Q ((a, .inr (ci, fs)) :: tl) pc lv (v :: .ref a :: st) := by
  obtain ⟨CC, T, N, h1, h2, h3, h4, h5, h6⟩ := hw
  intro l p e s m args below meth c H locs ls C hls hP hD hS
  obtain ⟨hu, ty0, hty, hnm⟩ := zCls ci CC T N h1
  exact va_putF (C := CC) (T := T) (N := N) (ref := (T f).1) C.1 C.2.1 C.2.2.2.2.2.2.1 hu ty0 hty hnm C.2.2.2.2.2.1 C.2.2.2.2.2.2.2.1 hP hD hS 0 rfl h1 f h2 (C.2.2.2.2.2.2.1 _ h3) (fun _ h => h) h4 (hJ _ _ _ _ _ C.2.2.2.2.2.2.2.2.2.2.2) h5 h6 hn hfit hl hd (fun H1 locs1 hP1 hD1 hS1 => kk l p e s m args below meth c H1 locs1 ls C hls hP1 hD1 hS1)
theorem gc_put {idx ci f a : Nat} {ty : FieldType} {v : Value} {fs : List Value} {tl : va_W} (hw : zFP own idx ci f ty) (hd : decode cc pc = .ok (.putfield idx, 3)) (hn : narrow ty v = v) (hfit : fits ty v = true) (hl : f < fs.length)
    (kk : GoC E A R cz sz own cc nL ret J Q ((a, .inr (ci, fs.set f v)) :: tl) (pc + 3) lv st) : GoC E A R cz sz own cc nL ret J Q ((a, .inr (ci, fs)) :: tl) pc lv (v :: .ref a :: st) := by
  obtain ⟨CC, T, N, h1, h2, h3, h4, h5⟩ := hw
  intro l p e s m args below meth c H locs ls C hls hP hD hS
  obtain ⟨hu, ty0, hty, hnm⟩ := zCls ci CC T N h1
  exact va_put (C := CC) (T := T) (N := N) (ref := (T f).1) C.1 C.2.1 C.2.2.2.2.2.2.1 hu ty0 hty hnm C.2.2.2.2.2.1 C.2.2.2.2.2.2.2.1 hP hD hS 0 rfl h1 f h2 (C.2.2.2.2.2.2.1 _ h3) (fun _ h => h) h4 h5 hn hfit hl hd (fun H1 locs1 hP1 hD1 hS1 => kk l p e s m args below meth c H1 locs1 ls C hls hP1 hD1 hS1)
theorem gc_get {idx ci f a : Nat} {v : Value} {fs : List Value} {tl : va_W} (hw : zFL own idx ci f) (hd : decode cc pc = .ok (.getfield idx, 3)) (hv : fs[f]? = some v)
    (kk : GoC E A R cz sz own cc nL ret J Q ((a, .inr (ci, fs)) :: tl) (pc + 3) lv (v :: st)) : GoC E A R cz sz own cc nL ret J Q ((a, .inr (ci, fs)) :: tl) pc lv (.ref a :: st) := by
  obtain ⟨CC, T, N, h1, h2, h3⟩ := hw
  intro l p e s m args below meth c H locs ls C hls hP hD hS
  exact va_get (C := CC) (T := T) (N := N) (ref := (T f).1) C.1 C.2.1 C.2.2.2.2.2.2.1 (zCls ci CC T N h1).1 C.2.2.2.2.2.1 C.2.2.2.2.2.2.2.1 hP 0 rfl h1 f h2 (C.2.2.2.2.2.2.1 _ h3) (fun _ h => h) (v := v) hv hd (kk l p e s m args below meth c H locs ls C hls hP hD hS)
/-- rows: t0 is the row's place in zTy -/
theorem gc_newa {atype : ArrayType} {ty : FieldType} {a0 : vp_A} (n t0 : Nat) {x : Int32} (ha : Cond.arrayClass (newarray.typeOf atype) ∈ zG) (hty : newarray.typeOf atype = ty) (ht0 : ∀ E : zE, (zTy E)[t0]? = some (zC E t0, ty)) (hne : ∀ C, ty ≠ .object C) (h0 : ∀ cA : ClassId, vp_cell cA a0 = arrV cA n (fun _ => defaultValue ty)) (hx : x = nI n) (hn : n < 2 ^ 20) (hb : n * componentBytes ty ≤ 536870912) (hc : cz + 1 ≤ R.cells) (hs : sz + n ≤ R.slots) (hd : decode cc pc = .ok (.newarray atype, 2))
    (kk : ∀ q : Nat, GoC E A R (cz + 1) (sz + n) own cc nL ret J Q (w ++ [(q, .inl (zC E t0, a0))]) (pc + 2) lv (.ref q :: st)) : GoC E A R cz sz own cc nL ret J Q w pc lv (.int x :: st) := by
  subst hx
  intro l p e s m args below meth c H locs ls C hls hP hD hS
  refine va_newa C.1 C.2.1 (C.2.2.2.2.2.2.1 _ ha) hty C.2.2.2.2.2.2.2.1 hP hD hS C.2.2.2.2.2.2.2.2.2.1 (n := nI n) (N' := n) h0 (nI_pos (by omega)) (nI_clamp (by omega)) hb hc hs hd (fun q cA H1 hK1 hP1 hD1 hS1 => ?_)
  have e : cA = zC E t0 := by
    have q1 := (hK1.2 4 (cA, ty) rfl).2
    have q2 := (C.2.2.2.2.2.2.2.1.2 t0 _ (ht0 E)).2
    cases ty with
    | object C9 => exact absurd rfl (hne C9)
    | _ => exact Option.some.inj (q1.symm.trans q2)
  subst e
  exact kk q l p e s m args below meth c H1 locs ls C hls hP1 hD1 hS1
theorem gc_newq (n : Nat) {idx : Nat} {x : Int32} (hk : Cond.classLink own idx RX2 ∈ zG) (hx : x = nI n) (hn : n < 2 ^ 20) (hc : cz + 1 ≤ R.cells) (hs : sz + n ≤ R.slots) (hd : decode cc pc = .ok (.anewarray idx, 3))
    (kk : ∀ q : Nat, GoC E A R (cz + 1) (sz + n) own cc nL ret J Q (w ++ [(q, .inl (zC E 3, n, .inr (.inr (.inr (.inr (fun _ => none))))))]) (pc + 3) lv (.ref q :: st)) : GoC E A R cz sz own cc nL ret J Q w pc lv (.int x :: st) := by
  subst hx
  intro l p e s m args below meth c H locs ls C hls hP hD hS
  refine va_newq C.1 C.2.1 C.2.2.2.2.2.1 (C.2.2.2.2.2.2.1 _ hk) C.2.2.2.2.2.2.2.2.1.2.2 C.2.2.2.2.2.2.2.1 hP hD hS C.2.2.2.2.2.2.2.2.2.1 (n := nI n) (N' := n) (nI_pos (by omega)) (nI_clamp (by omega)) (by omega) hc hs hd (fun q cA H1 hK1 hP1 hD1 hS1 => ?_)
  have e : cA = zC E 3 := by
    obtain ⟨_, _, -, -, -, q1⟩ := (hK1.2 4 (cA, .object RX2) rfl).2
    obtain ⟨_, _, -, -, -, q2⟩ := (C.2.2.2.2.2.2.2.1.2 3 (zC E 3, .object RX2) rfl).2
    exact Option.some.inj (q1.symm.trans q2)
  subst e
  exact kk q l p e s m args below meth c H1 locs ls C hls hP1 hD1 hS1
theorem gc_iast {a n k : Nat} {f : Nat → Int32} {x y : Int32} (i t0 : Nat) (ha : w[k]? = some (a, .inl (zC E 0, n, .inl f))) (hx : x = nI i) (hi : i < n) (hn : n < 2 ^ 31) (hd : decode cc pc = .ok (.iastore, 1))
    (kk : GoC E A R cz sz own cc nL ret J Q (w.set k (a, .inl (zC E 0, n, .inl (upd f i y)))) (pc + 1) lv st) : GoC E A R cz sz own cc nL ret J Q w pc lv (.int y :: .int x :: .ref a :: st) := by
  subst hx
  intro l p e s m args below meth c H locs ls C hls hP hD hS
  refine va_iast C.1 C.2.1 C.2.2.2.2.2.2.2.1 hP hD hS k 0 ha rfl (vp_in_nI hi hn) hd (fun H1 locs1 hP1 hD1 hS1 => ?_)
  rw [nI_clamp (by omega)] at hP1 hD1
  exact kk l p e s m args below meth c H1 locs1 ls C hls hP1 hD1 hS1
theorem gc_aast {a n k qk v : Nat} {f : Nat → Option Nat} {vs : List Value} {x : Int32} (i : Nat) (ha : w[k]? = some (a, .inl (zC E 3, n, .inr (.inr (.inr (.inr f)))))) (hv : w[qk]? = some (v, .inr (2, vs))) (hx : x = nI i) (hi : i < n) (hn : n < 2 ^ 31) (hd : decode cc pc = .ok (.aastore, 1))
    (kk : GoC E A R cz sz own cc nL ret J Q (w.set k (a, .inl (zC E 3, n, .inr (.inr (.inr (.inr (va_up f i (some v)))))))) (pc + 1) lv st) : GoC E A R cz sz own cc nL ret J Q w pc lv (.ref v :: .int x :: .ref a :: st) := by
  subst hx
  intro l p e s m args below meth c H locs ls C hls hP hD hS
  refine va_astq C.1 C.2.1 C.2.2.2.2.2.2.2.1 hP hD hS k 3 qk 2 (r := (RX2, TX2, 10)) ha rfl hv rfl (vp_in_nI hi hn) hd (fun H1 locs1 hP1 hD1 hS1 => ?_)
  rw [nI_clamp (by omega)] at hP1 hD1
  exact kk l p e s m args below meth c H1 locs1 ls C hls hP1 hD1 hS1
def kNew (own : String) (idx ci N : Nat) (fs : List Value) : Prop := ∃ (C : String) (T : u_T) (ty : Nat → FieldType), vwCl[ci]? = some (C, T, N) ∧ Cond.classLink own idx C ∈ zG ∧ Cond.instantiable C N ∈ zG ∧ Cond.initialized C ∈ zG ∧ (∀ k, k < N → parseFieldDescriptor (T k).2.2.1 = some (ty k)) ∧ ∀ j, j < N → defaultValue (ty j) = vp_V fs j
theorem gc_new {idx ci N : Nat} {fs : List Value} (hw : kNew own idx ci N fs) (hc : cz + 1 ≤ R.cells) (hs : sz + N ≤ R.slots) (hd : decode cc pc = .ok (.new idx, 3))
    (kk : ∀ q : Nat, GoC E A R (cz + 1) (sz + N) own cc nL ret J Q (w ++ [(q, .inr (ci, fs))]) (pc + 3) lv (.ref q :: st)) : GoC E A R cz sz own cc nL ret J Q w pc lv st := by
  obtain ⟨CC, T, ty, h1, h2, h3, h4, h5, h6⟩ := hw
  intro l p e s m args below meth c H locs ls C hls hP hD hS
  exact va_new (C := CC) (T := T) (N := N) C.1 C.2.1 C.2.2.2.2.2.2.1 (zCls ci CC T N h1).1 ty h5 C.2.2.2.2.2.1 (C.2.2.2.2.2.2.1 _ h2) (C.2.2.2.2.2.2.1 _ h3) (C.2.2.2.2.2.2.1 _ h4) C.2.2.2.2.2.2.2.1 hP hD hS C.2.2.2.2.2.2.2.2.2.1 h1 h6 hc hs hd (fun q H1 hP1 hD1 hS1 => kk q l p e s m args below meth c H1 locs ls C hls hP1 hD1 hS1)
end GcRules
/-- behind a call: the cells w stay, the callee's w0 have become w1 -/
theorem k_join {D : va_G} {cl : List vw_C} {A : Nat → Prop} {w w0 w1 : va_W} {H H1 : Heap} (hP : va_P D cl (w ++ w0) H) (hD : va_D A (w ++ w0)) (hk : ∀ x : Nat, x < H.size → ¬ va_A w0 H.size x → H1[x]? = H[x]?) (hF : ∀ x, va_A w0 H.size x → A x) (hP1 : va_P D cl w1 H1) (hD1 : va_D (va_A w0 H.size) w1) : va_P D cl (w ++ w1) H1 ∧ va_D A (w ++ w1) := by
  have lft : ∀ (k : Nat) (x : Nat × va_E), w[k]? = some x → (w ++ w0)[k]? = some x := fun k x hx => by
    rw [List.getElem?_append_left (List.getElem?_eq_some_iff.mp hx).1]; exact hx
  have apart : ∀ (k : Nat) (x : Nat × va_E), w[k]? = some x → x.1 < H.size ∧ ¬ va_A w0 H.size x.1 := by
    intro k x hx
    have hl := (hP k x (lft k x hx)).lt
    refine ⟨hl, fun h => ?_⟩
    rcases h with ⟨k2, e, h⟩ | h
    · have h2 : (w ++ w0)[w.length + k2]? = some (x.1, e) := by
        rw [List.getElem?_append_right (Nat.le_add_right _ _), Nat.add_sub_cancel_left]; exact h
      have hij := hD.1 k (w.length + k2) x (x.1, e) (lft k x hx) h2 rfl
      have hkl := (List.getElem?_eq_some_iff.mp hx).1
      omega
    · omega
  refine ⟨va_P.app (fun k x hx => (hP k x (lft k x hx)).kept (hk x.1 (apart k x hx).1 (apart k x hx).2)) hP1, va_D.app ⟨fun i j p q hi hj e => hD.1 i j p q (lft i p hi) (lft j q hj) e, fun k q hq => hD.2 k q (lft k q hq)⟩ (hD1.weaken (fun k q _ h => hF q.1 h)) (fun i j x y hx hy hxy => ?_)⟩
  exact (apart i x hx).2 (by rw [hxy]; exact hD1.2 j y hy)
theorem k_right {D : va_G} {cl : List vw_C} {w w0 : va_W} {H : Heap} (hP : va_P D cl (w ++ w0) H) : va_P D cl w0 H := fun k q hk => hP (w.length + k) q (by rw [List.getElem?_append_right (Nat.le_add_right _ _), Nat.add_sub_cancel_left]; exact hk)
theorem k_rightD {A : Nat → Prop} {w w0 : va_W} (hD : va_D A (w ++ w0)) : va_D A w0 :=
  have r : ∀ (k : Nat) (q : Nat × va_E), w0[k]? = some q → (w ++ w0)[w.length + k]? = some q := fun k q hk => by rw [List.getElem?_append_right (Nat.le_add_right _ _), Nat.add_sub_cancel_left]; exact hk
  ⟨fun i j p q hi hj e => by have := hD.1 _ _ p q (r i p hi) (r j q hj) e; omega, fun k q hk => hD.2 _ q (r k q hk)⟩
theorem k_blind {E : zE} {w0 : va_W} {n : Nat} (av : List Value) : FrameBlind (va_Pc av (kPre E w0 n)) := fun a U g mk q => by
  obtain ⟨q0, q1, q2, q3, q4, q5⟩ := q
  exact ⟨q0, q1, q2, va_K.moved (u := U) (U := U.calling g mk a) (Vm.Alike.refl U.vm) q3, q4, kF.same q5 rfl⟩
section GcCalls
variable {E : zE} {A : Nat → Prop} {R : Room} {cz sz : Nat} {own : String} {cc : ByteArray} {nL : Nat} {ret : Option FieldType} {J : Launch → State → Array Value → Method → Code → Prop} {Q : List Frame → Array Value → State → State → Prop} {w w0 : va_W} {pc : Nat} {lv : List (Nat × Value)} {st rest : List Value} {Post : va_W → Prop} {mc ms : Nat}
theorem k_after {l : Launch} {p : Program} {e : Env} {s : State} {m : MethodId} {args : Array Value} {below : List Frame} {meth : Method} {c : Code} {H : Heap} {locs : List Loc} {ls : Array Slot} {av : Array Value}
    (C : kCx E A own cc nL ret J l p s m args meth c) (hls : lv_has ls nL lv) (hP : va_P (zD E) vwCl (w ++ w0) H) (hD : va_D A (w ++ w0)) (hS : va_S A s.heap H locs)
    (hr : va_Run p l e R s m args below meth c H locs cz sz mc ms (F0 m pc ls st) rest (kQ E (va_A w0 H.size) Post av) (va_A w0 H.size))
    (kk : ∀ w1, Post w1 → GoC E A R (cz + mc) (sz + ms) own cc nL ret J Q (w ++ w1) (pc + 3) lv rest) :
    W p l e R s m args below meth c H locs cz sz (Q below args s) (F0 m pc ls st) := by
  have hA := C.2.2.2.2.2.2.2.2.2.1
  have hF : ∀ x, va_A w0 H.size x → A x := fun x h => by
    rcases h with ⟨k, e, h⟩ | h
    · exact (k_rightD hD).2 k (x, e) h
    · exact hA x (Nat.le_trans hS.1 h)
  intro T hT X
  obtain ⟨v, st₀, t, T', L, h0, X', hL, e1, e2, ⟨⟨w1, hv, hp, hP1, hD1⟩, hz, hk⟩, stp⟩ := hr T hT X
  cases hv
  rw [h0] at hz hk
  obtain ⟨hP2, hD2⟩ := k_join hP hD (H1 := t.heap) hk hF hP1 hD1
  obtain ⟨t2, a1, b1⟩ := kk w1 hp l p e s m args below meth c T'.heap (locs ++ L) ls C hls (by rw [e1]; exact hP2) hD2
    ⟨Nat.le_trans hS.1 (by rw [e1]; exact hz), fun q h1 h2 => by rw [e1, hk q (Nat.lt_of_lt_of_le h1 hS.1) (fun z => h2 (hF q z))]; exact hS.2.1 q h1 h2, fun q hq => by
      rcases List.mem_append.mp hq with h | h
      · exact hS.2.2 q h
      · exact hF _ (hL q h)⟩ T' rfl X'
  exact ⟨t2, stp t2 a1, b1⟩
theorem k_preU {l : Launch} {s U : State} {p : Program} {m : MethodId} {args : Array Value} {meth : Method} {c : Code} {H : Heap} {locs : List Loc} (C : kCx E A own cc nL ret J l p s m args meth c) (hP : va_P (zD E) vwCl (w ++ w0) H) (hD : va_D A (w ++ w0)) (hS : va_S A s.heap H locs) (hU : U.heap = H) (hW : s.WarmedH U.vm) : kPre E w0 H.size U :=
  ⟨by rw [hU], by rw [hU]; exact k_right hP, va_K.moved hW.alike C.2.2.2.2.2.2.2.1, (k_rightD hD).weaken (fun _ _ _ _ => trivial), by rw [hU]; exact C.2.2.2.2.2.2.2.2.1.to hW (fun a h1 h2 => hS.2.1 a h1 (fun z => h2 (C.2.2.2.2.2.2.2.2.2.2.1 a z)))⟩
theorem k_met {y : MethodName} {cb : ByteArray} {mL d2 : Nat} {av : List Value} {s : State} {p : Program} {m : MethodId} {args : Array Value} {meth : Method} {c : Code} {H : Heap} {locs : List Loc} (l : Launch) (C : kCx E A own cc nL ret J l p s m args meth c) (hz : zS E ≤ s.heap.size) (hD : va_D A (w ++ w0)) (hS : va_S A s.heap H locs) (hc : CtM E d2 y cb mL w0 av Post mc ms) :
    Met l y (.code y cb mL none :: zG) (kRm d2 mc ms) (va_Pc av (kPre E w0 H.size)) (kQ E (va_A w0 H.size) Post) mc ms (va_A w0 H.size) :=
  hc l H.size (fun k q hk => C.2.2.2.2.2.2.2.2.2.2.1 _ ((k_rightD hD).2 k q hk)) (Nat.le_trans hz hS.1)
theorem k_callB {s : State} {args : Array Value} {y : MethodName} {cb : ByteArray} {mL idx n d2 : Nat} (hts : ∀ w ∈ zG, w.before args s = true) (hl : Cond.methodLink own idx y ∈ zG) (hm : zMB y cb mL none n) (hR : d2 + 1 ≤ R.frames ∧ 48 * d2 + 48 ≤ R.locals) (hL : mL ≤ 29) :
    CallB R s args own idx y cb mL none (Cond.code y cb mL none :: zG) (kRm d2 mc ms) mc ms n :=
  callB_of n hts (z_goodIn hm.2.1) rfl rfl rfl (hts _ hm.1) (hts _ hl) hm.2.2 ⟨hR.1, by show 8 + (mL + 11) + 48 * d2 ≤ R.locals; omega⟩
theorem gc_callI {y : MethodName} {cb : ByteArray} {mL idx n d2 b : Nat} {As : List Value} (hz : ∀ (s : State), (∀ q, s.heap.size ≤ q → A q) → (∀ q, A q → zFr E q) → zS E ≤ s.heap.size) (hl : Cond.methodLink own idx y ∈ zG) (hm : zMB y cb mL none n) (hi : Cond.instanceMethod y ∈ zG) (hny : y.name = "<init>") (hd : decode cc pc = .ok (.invokespecial idx, 3))
    (hc : CtM E d2 y cb mL w0 (.ref b :: As) Post mc ms) (hdd : d2 + 1 ≤ R.frames ∧ 48 * d2 + 48 ≤ R.locals) (hcs : cz + mc ≤ R.cells ∧ sz + ms ≤ R.slots) (hL : mL ≤ 29) (hn : As.length = n) (hst : zPush (.ref b :: As) rest = st) (hw : (rest.map fun v => v.category).sum ≤ 8)
    (kk : ∀ w1, Post w1 → GoC E A R (cz + mc) (sz + ms) own cc nL ret J Q (w ++ w1) (pc + 3) lv rest) : GoC E A R cz sz own cc nL ret J Q (w ++ w0) pc lv st := by
  intro l p e s m args below meth c H locs ls C hls hP hD hS
  have hzs := hz s C.2.2.2.2.2.2.2.2.2.1 C.2.2.2.2.2.2.2.2.2.2.1
  refine k_after C hls hP hD hS (va_runI (Ts := zG) (own := own) (b := b) (As := As) ⟨C.1, C.2.1, C.2.2.1, C.2.2.2.2.2.1, C.2.2.2.2.2.2.1⟩ (k_met l C hzs hD hS hc) ⟨k_callB C.2.2.2.2.2.2.1 hl hm hdd hL, hny, C.2.2.2.2.2.2.1 _ hi⟩ ⟨k_blind _, fun U hU hW => ⟨rfl, k_preU C hP hD hS hU hW⟩⟩ rfl hn hls.1 ?_ (lv_room hw) hd hcs) kk
  show st = As.reverse ++ .ref b :: rest
  rw [← hst, z_push]
  simp
theorem gc_callIN {y : MethodName} {cb : ByteArray} {mL idx n d2 b : Nat} {As : List Value} (hz : ∀ (s : State), (∀ q, s.heap.size ≤ q → A q) → (∀ q, A q → zFr E q) → zS E ≤ s.heap.size) (hl : (own, idx, y) ∈ kNl) (hm : zMB y cb mL none n) (hi : Cond.instanceMethod y ∈ zG) (hny : y.name = "<init>") (hd : decode cc pc = .ok (.invokespecial idx, 3))
    (hc : CtM E d2 y cb mL w0 (.ref b :: As) Post mc ms) (hdd : d2 + 1 ≤ R.frames ∧ 48 * d2 + 48 ≤ R.locals) (hcs : cz + mc ≤ R.cells ∧ sz + ms ≤ R.slots) (hL : mL ≤ 29) (hn : As.length = n) (hst : zPush (.ref b :: As) rest = st) (hw : (rest.map fun v => v.category).sum ≤ 8)
    (kk : ∀ w1, Post w1 → GoC E A R (cz + mc) (sz + ms) own cc nL ret J Q (w ++ w1) (pc + 3) lv rest) : GoC E A R cz sz own cc nL ret J Q (w ++ w0) pc lv st := by
  intro l p e s m args below meth c H locs ls C hls hP hD hS
  have hzs := hz s C.2.2.2.2.2.2.2.2.2.1 C.2.2.2.2.2.2.2.2.2.2.1
  have hN : va_Nw (.methodLinkNest own idx y RX11) s := C.2.2.2.2.2.2.2.2.1.2.1 _ hl
  refine k_after C hls hP hD hS (va_runIN (Ts := zG) (own := own) (host := RX11) (b := b) (As := As) ⟨C.1, C.2.1, C.2.2.1, C.2.2.2.2.2.1, C.2.2.2.2.2.2.1⟩ (k_met l C hzs hD hS hc) ⟨va_cnB n C.2.2.2.2.2.2.1 (z_goodIn hm.2.1) rfl rfl rfl hN (C.2.2.2.2.2.2.1 _ hm.1) hm.2.2 ⟨hdd.1, by show 8 + (mL + 11) + 48 * d2 ≤ R.locals; omega⟩, hny, C.2.2.2.2.2.2.1 _ hi⟩ ⟨k_blind _, fun U hU hW => ⟨rfl, k_preU C hP hD hS hU hW⟩⟩ rfl hn hls.1 ?_ (lv_room hw) hd hcs) kk
  show st = As.reverse ++ .ref b :: rest
  rw [← hst, z_push]
  simp
/-- a method of the thing at the head of all cells -/
theorem gc_callV {y : MethodName} {cb : ByteArray} {mL idx n d2 b ci : Nat} {q : vw_C} {fs : List Value} {tl : va_W} {As : List Value} (hz : ∀ (s : State), (∀ q, s.heap.size ≤ q → A q) → (∀ q, A q → zFr E q) → zS E ≤ s.heap.size) (hl : Cond.methodLink own idx y ∈ zG) (hm : zMV y cb mL none n) (hd : decode cc pc = .ok (.invokevirtual idx, 3))
    (hc : CtM E d2 y cb mL ((b, .inr (ci, fs)) :: tl) (.ref b :: As) Post mc ms) (hq : vwCl[ci]? = some q) (hy : q.1 = y.cls) (hdd : d2 + 1 ≤ R.frames ∧ 48 * d2 + 48 ≤ R.locals) (hcs : cz + mc ≤ R.cells ∧ sz + ms ≤ R.slots) (hL : mL ≤ 29) (hn : As.length = n) (hst : zPush (.ref b :: As) rest = st) (hw : (rest.map fun v => v.category).sum ≤ 8)
    (kk : ∀ w1, Post w1 → GoC E A R (cz + mc) (sz + ms) own cc nL ret J Q w1 (pc + 3) lv rest) : GoC E A R cz sz own cc nL ret J Q ((b, .inr (ci, fs)) :: tl) pc lv st := by
  intro l p e s m args below meth c H locs ls C hls hP hD hS
  have hzs := hz s C.2.2.2.2.2.2.2.2.2.1 C.2.2.2.2.2.2.2.2.2.2.1
  have hrecv := va_recv C.2.2.2.2.2.2.2.1 hP hq (q0 := 0) rfl
  rw [hy] at hrecv
  refine k_after (w := []) C hls hP hD hS (va_runV (Ts := zG) (own := own) (C := y.cls) (b := b) (As := As) ⟨C.1, C.2.1, C.2.2.1, C.2.2.2.2.2.1, C.2.2.2.2.2.2.1⟩ (k_met (w := []) l C hzs hD hS hc) ⟨k_callB C.2.2.2.2.2.2.1 hl hm.1 hdd hL, C.2.2.2.2.2.2.1 _ hm.2.1, C.2.2.2.2.2.2.1 _ hm.2.2⟩ ⟨k_blind _, hrecv, fun U hU hW => ⟨rfl, k_preU (w := []) C hP hD hS hU hW⟩⟩ rfl hn hls.1 ?_ (lv_room hw) hd hcs) kk
  show st = As.reverse ++ .ref b :: rest
  rw [← hst, z_push]
  simp
theorem gc_usu {idx : Nat} (hw : Cond.fieldLink own idx "ThornHedge$Rule" "USUAL" "[I" ∈ zG) (hd : decode cc pc = .ok (.getstatic idx, 3)) (k : GoC E A R cz sz own cc nL ret J Q w (pc + 3) lv (.ref (zU E) :: st)) : GoC E A R cz sz own cc nL ret J Q w pc lv st := by
  intro l p e s m args below meth c H locs ls C hls hP hD hS
  have hZ := C.2.2.2.2.2.2.2.2.1.1.2.2.2.1
  exact va_gets C.1 C.2.1 (hZ.narrow C.2.2.2.2.2.2.2.2.2.2.1) hS C.2.2.2.2.2.1 (C.2.2.2.2.2.2.1 _ hw) (fun _ h => h) hd (k l p e s m args below meth c H locs ls C hls hP hD hS)
theorem gc_ulen (hd : decode cc pc = .ok (.arraylength, 1)) (k : GoC E A R cz sz own cc nL ret J Q w (pc + 1) lv (.int (nI 7) :: st)) : GoC E A R cz sz own cc nL ret J Q w pc lv (.ref (zU E) :: st) := by
  intro l p e s m args below meth c H locs ls C hls hP hD hS
  have hZ := C.2.2.2.2.2.2.2.2.1.1.2.2.2.2.1
  exact va_tlen C.1 C.2.1 (hZ.narrow C.2.2.2.2.2.2.2.2.2.2.1) hS rfl hd (k l p e s m args below meth c H locs ls C hls hP hD hS)
theorem gc_uat {x : Int32} (i : Nat) (hx : x = nI i) (hi : i < 7) (hd : decode cc pc = .ok (.iaload, 1)) (k : GoC E A R cz sz own cc nL ret J Q w (pc + 1) lv (.int (zUs i) :: st)) : GoC E A R cz sz own cc nL ret J Q w pc lv (.int x :: .ref (zU E) :: st) := by
  subst hx
  intro l p e s m args below meth c H locs ls C hls hP hD hS
  have hZ := C.2.2.2.2.2.2.2.2.1.1.2.2.2.2.1
  exact va_ti C.1 C.2.1 (hZ.narrow C.2.2.2.2.2.2.2.2.2.2.1) hS (vp_in_nI hi (by decide)) (v := .int (zUs i)) (by rw [nI_clamp (by omega)]) hd (k l p e s m args below meth c H locs ls C hls hP hD hS)
end GcCalls

