/-! what a throw stands on, beside the good words: three names declared, a cast, two statics of Throwable's -/
def xNS : String := "java/util/NoSuchElementException"
def xD (C : String) : Cond := .declares ⟨C, "<init>", "()V"⟩
def zX (E : zE) (U : State) (H : Heap) : Prop :=
  va_Nw (xD "java/lang/RuntimeException") U ∧ va_Nw (xD "java/lang/Exception") U ∧ va_Nw (xD "java/lang/Throwable") U ∧ va_Nw (.castable xNS xNS) U ∧
  vx_Zq Bundle.tN "UNASSIGNED_STACK" Bundle.steD (zFr E) U H ∧ vx_Zq Bundle.tN "SUPPRESSED_SENTINEL" Bundle.listD (zFr E) U H
theorem zX.to {E : zE} {s U : State} {H : Heap} (h : zX E s s.heap) (hW : s.WarmedH U.vm) (hq : ∀ a : Nat, a < s.heap.size → ¬ zFr E a → H[a]? = s.heap[a]?) : zX E U H :=
  ⟨h.1.warmD hW, h.2.1.warmD hW, h.2.2.1.warmD hW, h.2.2.2.1.warmC hW, vx_Zq.moved hW.alike (h.2.2.2.2.1.kept hq), vx_Zq.moved hW.alike (h.2.2.2.2.2.kept hq)⟩
theorem zX.same {E : zE} {s U : State} {H : Heap} (h : zX E s H) (hv : s.vm = U.vm) : zX E U H :=
  have ha : s.vm.Alike U.vm := hv ▸ Vm.Alike.refl s.vm
  ⟨h.1.same rfl hv, h.2.1.same rfl hv, h.2.2.1.same rfl hv, h.2.2.2.1.same rfl hv, vx_Zq.moved ha h.2.2.2.2.1, vx_Zq.moved ha h.2.2.2.2.2⟩
def zCy (E : zE) (own : String) (cc : ByteArray) (nL : Nat) (ret : Option FieldType) (J : Array Value → State → Code → Prop) (l : Launch) (p : Program) (s : State) (m : MethodId) (args : Array Value) (meth : Method) (c : Code) : Prop :=
  zCx E own cc nL ret p s m args meth c ∧ zX E s s.heap ∧ l.stackTraces = false ∧ J args s c
def GoG (E : zE) (R : Room) (cz sz : Nat) (own : String) (cc : ByteArray) (nL : Nat) (ret : Option FieldType) (Q : List Frame → Array Value → State → State → Prop) (J : Array Value → State → Code → Prop) (σ : zT) (pc : Nat) (lv : List (Nat × Value)) (st : List Value) : Prop :=
  ∀ (l : Launch) (p : Program) (e : Env) (s : State) (m : MethodId) (args : Array Value) (below : List Frame) (meth : Method) (c : Code) (H : Heap) (locs : List Loc) (ls : Array Slot),
    zCy E own cc nL ret J l p s m args meth c → lv_has ls nL lv → zP E σ H → va_S (zFr E) s.heap H locs →
    W p l e R s m args below meth c H locs cz sz (Q below args s) (F0 m pc ls st)
section GxRules
variable {E : zE} {R : Room} {cz sz : Nat} {own : String} {cc : ByteArray} {nL : Nat} {ret : Option FieldType} {Q : List Frame → Array Value → State → State → Prop} {J : Array Value → State → Code → Prop} {σ : zT} {pc : Nat} {lv : List (Nat × Value)} {st : List Value}
theorem gx_iconst {n : Int} (v : Int32) (hd : decode cc pc = .ok (.iconst n, 1)) (hv : Int32.ofInt n = v) (k : GoG E R cz sz own cc nL ret Q J σ (pc + 1) lv (.int v :: st)) : GoG E R cz sz own cc nL ret Q J σ pc lv (st) :=
  fun l p e s m args below meth c H locs ls C hl hP hS => lv_iconst C.1.1 C.1.2.1 hd hv (k l p e s m args below meth c H locs ls C hl hP hS)
theorem gx_bipush {n : Int} (v : Int32) (hd : decode cc pc = .ok (.bipush n, 2)) (hv : (Int8.ofInt n).toInt32 = v) (k : GoG E R cz sz own cc nL ret Q J σ (pc + 2) lv (.int v :: st)) : GoG E R cz sz own cc nL ret Q J σ pc lv (st) :=
  fun l p e s m args below meth c H locs ls C hl hP hS => lv_bipush C.1.1 C.1.2.1 hd hv (k l p e s m args below meth c H locs ls C hl hP hS)
theorem gx_iload_n {j : Fin 4} {i : Nat} {x : Int32} (hd : decode cc pc = .ok (.iload_n j, 1)) (hi : (j : Nat) = i) (hv : zLk lv i = some (.int x)) (k : GoG E R cz sz own cc nL ret Q J σ (pc + 1) lv (.int x :: st)) : GoG E R cz sz own cc nL ret Q J σ pc lv (st) :=
  fun l p e s m args below meth c H locs ls C hl hP hS => lv_iload_n C.1.1 C.1.2.1 hd hi (z_lk hl hv) (k l p e s m args below meth c H locs ls C hl hP hS)
theorem gx_iload {i : Nat} {x : Int32} (hd : decode cc pc = .ok (.iload i, 2)) (hv : zLk lv i = some (.int x)) (k : GoG E R cz sz own cc nL ret Q J σ (pc + 2) lv (.int x :: st)) : GoG E R cz sz own cc nL ret Q J σ pc lv (st) :=
  fun l p e s m args below meth c H locs ls C hl hP hS => lv_iload C.1.1 C.1.2.1 hd (z_lk hl hv) (k l p e s m args below meth c H locs ls C hl hP hS)
theorem gx_lload {i : Nat} {x : Int64} (hd : decode cc pc = .ok (.lload i, 2)) (hv : zLk lv i = some (.long x)) (k : GoG E R cz sz own cc nL ret Q J σ (pc + 2) lv (.long x :: st)) : GoG E R cz sz own cc nL ret Q J σ pc lv (st) :=
  fun l p e s m args below meth c H locs ls C hl hP hS => lv_lload C.1.1 C.1.2.1 hd (z_lk hl hv) (k l p e s m args below meth c H locs ls C hl hP hS)
theorem gx_aload_n {j : Fin 4} {i : Nat} {x : Nat} (hd : decode cc pc = .ok (.aload_n j, 1)) (hi : (j : Nat) = i) (hv : zLk lv i = some (.ref x)) (k : GoG E R cz sz own cc nL ret Q J σ (pc + 1) lv (.ref x :: st)) : GoG E R cz sz own cc nL ret Q J σ pc lv (st) :=
  fun l p e s m args below meth c H locs ls C hl hP hS => lv_aload_n C.1.1 C.1.2.1 hd hi (z_lk hl hv) (k l p e s m args below meth c H locs ls C hl hP hS)
theorem gx_aload {i : Nat} {x : Nat} (hd : decode cc pc = .ok (.aload i, 2)) (hv : zLk lv i = some (.ref x)) (k : GoG E R cz sz own cc nL ret Q J σ (pc + 2) lv (.ref x :: st)) : GoG E R cz sz own cc nL ret Q J σ pc lv (st) :=
  fun l p e s m args below meth c H locs ls C hl hP hS => lv_aload C.1.1 C.1.2.1 hd (z_lk hl hv) (k l p e s m args below meth c H locs ls C hl hP hS)
theorem gx_iadd {x y : Int32} (hd : decode cc pc = .ok (.iadd, 1)) (k : GoG E R cz sz own cc nL ret Q J σ (pc + 1) lv (.int (x + y) :: st)) : GoG E R cz sz own cc nL ret Q J σ pc lv (.int y :: .int x :: st) :=
  fun l p e s m args below meth c H locs ls C hl hP hS => lv_iadd C.1.1 C.1.2.1 hd (k l p e s m args below meth c H locs ls C hl hP hS)
theorem gx_isub {x y : Int32} (hd : decode cc pc = .ok (.isub, 1)) (k : GoG E R cz sz own cc nL ret Q J σ (pc + 1) lv (.int (x - y) :: st)) : GoG E R cz sz own cc nL ret Q J σ pc lv (.int y :: .int x :: st) :=
  fun l p e s m args below meth c H locs ls C hl hP hS => lv_isub C.1.1 C.1.2.1 hd (k l p e s m args below meth c H locs ls C hl hP hS)
theorem gx_iand {x y : Int32} (hd : decode cc pc = .ok (.iand, 1)) (k : GoG E R cz sz own cc nL ret Q J σ (pc + 1) lv (.int (x &&& y) :: st)) : GoG E R cz sz own cc nL ret Q J σ pc lv (.int y :: .int x :: st) :=
  fun l p e s m args below meth c H locs ls C hl hP hS => lv_iand C.1.1 C.1.2.1 hd (k l p e s m args below meth c H locs ls C hl hP hS)
theorem gx_i2l {x : Int32} (hd : decode cc pc = .ok (.i2l, 1)) (k : GoG E R cz sz own cc nL ret Q J σ (pc + 1) lv (.long x.toInt64 :: st)) : GoG E R cz sz own cc nL ret Q J σ pc lv (.int x :: st) :=
  fun l p e s m args below meth c H locs ls C hl hP hS => lv_i2l C.1.1 C.1.2.1 hd rfl (k l p e s m args below meth c H locs ls C hl hP hS)
theorem gx_lcmp {x y : Int64} (hd : decode cc pc = .ok (.lcmp, 1)) (k : GoG E R cz sz own cc nL ret Q J σ (pc + 1) lv (.int (lg_cmp x y) :: st)) : GoG E R cz sz own cc nL ret Q J σ pc lv (.long y :: .long x :: st) :=
  fun l p e s m args below meth c H locs ls C hl hP hS => W.lcmp C.1.1 C.1.2.1 hd (k l p e s m args below meth c H locs ls C hl hP hS)
theorem gx_istore_n {j : Fin 4} {i : Nat} {x : Int32} (hd : decode cc pc = .ok (.istore_n j, 1)) (hi : (j : Nat) = i) (hn : i < nL) (k : GoG E R cz sz own cc nL ret Q J σ (pc + 1) (zSt1 lv i (.int x)) (st)) : GoG E R cz sz own cc nL ret Q J σ pc lv (.int x :: st) :=
  fun l p e s m args below meth c H locs ls C hl hP hS => lv_istore_n C.1.1 C.1.2.1 hd hi hl hn rfl (fun ls2 h2 => k l p e s m args below meth c H locs ls2 C (z_zSt1 h2) hP hS)
theorem gx_istore {i : Nat} {x : Int32} (hd : decode cc pc = .ok (.istore i, 2)) (hn : i < nL) (k : GoG E R cz sz own cc nL ret Q J σ (pc + 2) (zSt1 lv i (.int x)) (st)) : GoG E R cz sz own cc nL ret Q J σ pc lv (.int x :: st) :=
  fun l p e s m args below meth c H locs ls C hl hP hS => lv_istore C.1.1 C.1.2.1 hd hl hn rfl (fun ls2 h2 => k l p e s m args below meth c H locs ls2 C (z_zSt1 h2) hP hS)
theorem gx_astore_n {j : Fin 4} {i : Nat} {x : Nat} (hd : decode cc pc = .ok (.astore_n j, 1)) (hi : (j : Nat) = i) (hn : i < nL) (k : GoG E R cz sz own cc nL ret Q J σ (pc + 1) (zSt1 lv i (.ref x)) (st)) : GoG E R cz sz own cc nL ret Q J σ pc lv (.ref x :: st) :=
  fun l p e s m args below meth c H locs ls C hl hP hS => lv_astore_n C.1.1 C.1.2.1 hd hi hl hn rfl (fun ls2 h2 => k l p e s m args below meth c H locs ls2 C (z_zSt1 h2) hP hS)
theorem gx_astore {i : Nat} {x : Nat} (hd : decode cc pc = .ok (.astore i, 2)) (hn : i < nL) (k : GoG E R cz sz own cc nL ret Q J σ (pc + 2) (zSt1 lv i (.ref x)) (st)) : GoG E R cz sz own cc nL ret Q J σ pc lv (.ref x :: st) :=
  fun l p e s m args below meth c H locs ls C hl hP hS => lv_astore C.1.1 C.1.2.1 hd hl hn rfl (fun ls2 h2 => k l p e s m args below meth c H locs ls2 C (z_zSt1 h2) hP hS)
theorem gx_lstore {i : Nat} {x : Int64} (hd : decode cc pc = .ok (.lstore i, 2)) (hn : i + 1 < nL) (k : GoG E R cz sz own cc nL ret Q J σ (pc + 2) (zSt2 lv i (.long x)) (st)) : GoG E R cz sz own cc nL ret Q J σ pc lv (.long x :: st) :=
  fun l p e s m args below meth c H locs ls C hl hP hS => lv_lstore C.1.1 C.1.2.1 hd hl hn rfl (fun ls2 h2 => k l p e s m args below meth c H locs ls2 C (z_zSt2 h2) hP hS)
theorem gx_iinc {i : Nat} {n : Int} {x : Int32} (v : Int32) (hd : decode cc pc = .ok (.iinc i n, 3)) (hx : zLk lv i = some (.int x)) (hv : x + Int32.ofInt n = v) (hn : i < nL) (k : GoG E R cz sz own cc nL ret Q J σ (pc + 3) (zSt1 lv i (.int v)) (st)) : GoG E R cz sz own cc nL ret Q J σ pc lv (st) :=
  fun l p e s m args below meth c H locs ls C hl hP hS => by
    obtain ⟨q, hq⟩ := z_lkp hx
    exact lv_iinc C.1.1 C.1.2.1 hd hl hq hv hn rfl (fun ls2 h2 => k l p e s m args below meth c H locs ls2 C (z_zSt1 h2) hP hS)
theorem gx_if_eq {x : Int32} {off : Int} (tgt : Nat) (hd : decode cc pc = .ok (.ifCond .eq off, 3)) (ht : (pc : Int) + off = (tgt : Int)) (kt : x = 0 → GoG E R cz sz own cc nL ret Q J σ tgt lv (st)) (kf : ¬ x = 0 → GoG E R cz sz own cc nL ret Q J σ (pc + 3) lv (st)) : GoG E R cz sz own cc nL ret Q J σ pc lv (.int x :: st) :=
  fun l p e s m args below meth c H locs ls C hl hP hS => lv_if_eq C.1.1 C.1.2.1 hd ht (fun q => kt q l p e s m args below meth c H locs ls C hl hP hS) (fun q => kf q l p e s m args below meth c H locs ls C hl hP hS)
theorem gx_if_ne {x : Int32} {off : Int} (tgt : Nat) (hd : decode cc pc = .ok (.ifCond .ne off, 3)) (ht : (pc : Int) + off = (tgt : Int)) (kt : ¬ x = 0 → GoG E R cz sz own cc nL ret Q J σ tgt lv (st)) (kf : x = 0 → GoG E R cz sz own cc nL ret Q J σ (pc + 3) lv (st)) : GoG E R cz sz own cc nL ret Q J σ pc lv (.int x :: st) :=
  fun l p e s m args below meth c H locs ls C hl hP hS => lv_if_ne C.1.1 C.1.2.1 hd ht (fun q => kt q l p e s m args below meth c H locs ls C hl hP hS) (fun q => kf q l p e s m args below meth c H locs ls C hl hP hS)
theorem gx_if_lt {x : Int32} {off : Int} (tgt : Nat) (hd : decode cc pc = .ok (.ifCond .lt off, 3)) (ht : (pc : Int) + off = (tgt : Int)) (kt : x < 0 → GoG E R cz sz own cc nL ret Q J σ tgt lv (st)) (kf : ¬ x < 0 → GoG E R cz sz own cc nL ret Q J σ (pc + 3) lv (st)) : GoG E R cz sz own cc nL ret Q J σ pc lv (.int x :: st) :=
  fun l p e s m args below meth c H locs ls C hl hP hS => lv_if_lt C.1.1 C.1.2.1 hd ht (fun q => kt q l p e s m args below meth c H locs ls C hl hP hS) (fun q => kf q l p e s m args below meth c H locs ls C hl hP hS)
theorem gx_if_ge {x : Int32} {off : Int} (tgt : Nat) (hd : decode cc pc = .ok (.ifCond .ge off, 3)) (ht : (pc : Int) + off = (tgt : Int)) (kt : 0 ≤ x → GoG E R cz sz own cc nL ret Q J σ tgt lv (st)) (kf : ¬ 0 ≤ x → GoG E R cz sz own cc nL ret Q J σ (pc + 3) lv (st)) : GoG E R cz sz own cc nL ret Q J σ pc lv (.int x :: st) :=
  fun l p e s m args below meth c H locs ls C hl hP hS => lv_if_ge C.1.1 C.1.2.1 hd ht (fun q => kt q l p e s m args below meth c H locs ls C hl hP hS) (fun q => kf q l p e s m args below meth c H locs ls C hl hP hS)
theorem gx_if_gt {x : Int32} {off : Int} (tgt : Nat) (hd : decode cc pc = .ok (.ifCond .gt off, 3)) (ht : (pc : Int) + off = (tgt : Int)) (kt : 0 < x → GoG E R cz sz own cc nL ret Q J σ tgt lv (st)) (kf : ¬ 0 < x → GoG E R cz sz own cc nL ret Q J σ (pc + 3) lv (st)) : GoG E R cz sz own cc nL ret Q J σ pc lv (.int x :: st) :=
  fun l p e s m args below meth c H locs ls C hl hP hS => lv_if_gt C.1.1 C.1.2.1 hd ht (fun q => kt q l p e s m args below meth c H locs ls C hl hP hS) (fun q => kf q l p e s m args below meth c H locs ls C hl hP hS)
theorem gx_if_le {x : Int32} {off : Int} (tgt : Nat) (hd : decode cc pc = .ok (.ifCond .le off, 3)) (ht : (pc : Int) + off = (tgt : Int)) (kt : x ≤ 0 → GoG E R cz sz own cc nL ret Q J σ tgt lv (st)) (kf : ¬ x ≤ 0 → GoG E R cz sz own cc nL ret Q J σ (pc + 3) lv (st)) : GoG E R cz sz own cc nL ret Q J σ pc lv (.int x :: st) :=
  fun l p e s m args below meth c H locs ls C hl hP hS => lv_if_le C.1.1 C.1.2.1 hd ht (fun q => kt q l p e s m args below meth c H locs ls C hl hP hS) (fun q => kf q l p e s m args below meth c H locs ls C hl hP hS)
theorem gx_icmp_eq {x y : Int32} {off : Int} (tgt : Nat) (hd : decode cc pc = .ok (.if_icmp .eq off, 3)) (ht : (pc : Int) + off = (tgt : Int)) (kt : x = y → GoG E R cz sz own cc nL ret Q J σ tgt lv (st)) (kf : ¬ x = y → GoG E R cz sz own cc nL ret Q J σ (pc + 3) lv (st)) : GoG E R cz sz own cc nL ret Q J σ pc lv (.int y :: .int x :: st) :=
  fun l p e s m args below meth c H locs ls C hl hP hS => lv_icmp_eq C.1.1 C.1.2.1 hd ht (fun q => kt q l p e s m args below meth c H locs ls C hl hP hS) (fun q => kf q l p e s m args below meth c H locs ls C hl hP hS)
theorem gx_icmp_ne {x y : Int32} {off : Int} (tgt : Nat) (hd : decode cc pc = .ok (.if_icmp .ne off, 3)) (ht : (pc : Int) + off = (tgt : Int)) (kt : ¬ x = y → GoG E R cz sz own cc nL ret Q J σ tgt lv (st)) (kf : x = y → GoG E R cz sz own cc nL ret Q J σ (pc + 3) lv (st)) : GoG E R cz sz own cc nL ret Q J σ pc lv (.int y :: .int x :: st) :=
  fun l p e s m args below meth c H locs ls C hl hP hS => lv_icmp_ne C.1.1 C.1.2.1 hd ht (fun q => kt q l p e s m args below meth c H locs ls C hl hP hS) (fun q => kf q l p e s m args below meth c H locs ls C hl hP hS)
theorem gx_icmp_lt {x y : Int32} {off : Int} (tgt : Nat) (hd : decode cc pc = .ok (.if_icmp .lt off, 3)) (ht : (pc : Int) + off = (tgt : Int)) (kt : x < y → GoG E R cz sz own cc nL ret Q J σ tgt lv (st)) (kf : ¬ x < y → GoG E R cz sz own cc nL ret Q J σ (pc + 3) lv (st)) : GoG E R cz sz own cc nL ret Q J σ pc lv (.int y :: .int x :: st) :=
  fun l p e s m args below meth c H locs ls C hl hP hS => lv_icmp_lt C.1.1 C.1.2.1 hd ht (fun q => kt q l p e s m args below meth c H locs ls C hl hP hS) (fun q => kf q l p e s m args below meth c H locs ls C hl hP hS)
theorem gx_icmp_ge {x y : Int32} {off : Int} (tgt : Nat) (hd : decode cc pc = .ok (.if_icmp .ge off, 3)) (ht : (pc : Int) + off = (tgt : Int)) (kt : y ≤ x → GoG E R cz sz own cc nL ret Q J σ tgt lv (st)) (kf : ¬ y ≤ x → GoG E R cz sz own cc nL ret Q J σ (pc + 3) lv (st)) : GoG E R cz sz own cc nL ret Q J σ pc lv (.int y :: .int x :: st) :=
  fun l p e s m args below meth c H locs ls C hl hP hS => lv_icmp_ge C.1.1 C.1.2.1 hd ht (fun q => kt q l p e s m args below meth c H locs ls C hl hP hS) (fun q => kf q l p e s m args below meth c H locs ls C hl hP hS)
theorem gx_icmp_gt {x y : Int32} {off : Int} (tgt : Nat) (hd : decode cc pc = .ok (.if_icmp .gt off, 3)) (ht : (pc : Int) + off = (tgt : Int)) (kt : y < x → GoG E R cz sz own cc nL ret Q J σ tgt lv (st)) (kf : ¬ y < x → GoG E R cz sz own cc nL ret Q J σ (pc + 3) lv (st)) : GoG E R cz sz own cc nL ret Q J σ pc lv (.int y :: .int x :: st) :=
  fun l p e s m args below meth c H locs ls C hl hP hS => lv_icmp_gt C.1.1 C.1.2.1 hd ht (fun q => kt q l p e s m args below meth c H locs ls C hl hP hS) (fun q => kf q l p e s m args below meth c H locs ls C hl hP hS)
theorem gx_icmp_le {x y : Int32} {off : Int} (tgt : Nat) (hd : decode cc pc = .ok (.if_icmp .le off, 3)) (ht : (pc : Int) + off = (tgt : Int)) (kt : x ≤ y → GoG E R cz sz own cc nL ret Q J σ tgt lv (st)) (kf : ¬ x ≤ y → GoG E R cz sz own cc nL ret Q J σ (pc + 3) lv (st)) : GoG E R cz sz own cc nL ret Q J σ pc lv (.int y :: .int x :: st) :=
  fun l p e s m args below meth c H locs ls C hl hP hS => lv_icmp_le C.1.1 C.1.2.1 hd ht (fun q => kt q l p e s m args below meth c H locs ls C hl hP hS) (fun q => kf q l p e s m args below meth c H locs ls C hl hP hS)
theorem gx_goto {off : Int} (tgt : Nat) (hd : decode cc pc = .ok (.goto off, 3)) (ht : (pc : Int) + off = (tgt : Int)) (k : GoG E R cz sz own cc nL ret Q J σ tgt lv (st)) : GoG E R cz sz own cc nL ret Q J σ pc lv (st) :=
  fun l p e s m args below meth c H locs ls C hl hP hS => lv_goto C.1.1 C.1.2.1 hd ht (k l p e s m args below meth c H locs ls C hl hP hS)
theorem gx_tableOut {dflt lo hi : Int} {offs : Array Int} {len : Nat} {x : Int32} (tgt : Nat) (hd : decode cc pc = .ok (.tableswitch dflt lo hi offs, len)) (h : x.toInt < lo ∨ hi < x.toInt) (ht : (pc : Int) + dflt = (tgt : Int)) (k : GoG E R cz sz own cc nL ret Q J σ tgt lv (st)) : GoG E R cz sz own cc nL ret Q J σ pc lv (.int x :: st) :=
  fun l p e s m args below meth c H locs ls C hl hP hS => lv_tableOut C.1.1 C.1.2.1 hd h ht (k l p e s m args below meth c H locs ls C hl hP hS)
theorem gx_tableIn {dflt lo hi : Int} {offs : Array Int} {len : Nat} {x : Int32} {off : Int} (tgt : Nat) (hd : decode cc pc = .ok (.tableswitch dflt lo hi offs, len)) (h1 : ¬ x.toInt < lo) (h2 : ¬ hi < x.toInt) (ho : offs[(x.toInt - lo).toNat]? = some off) (ht : (pc : Int) + off = (tgt : Int)) (k : GoG E R cz sz own cc nL ret Q J σ tgt lv (st)) : GoG E R cz sz own cc nL ret Q J σ pc lv (.int x :: st) :=
  fun l p e s m args below meth c H locs ls C hl hP hS => lv_tableIn C.1.1 C.1.2.1 hd h1 h2 ho ht (k l p e s m args below meth c H locs ls C hl hP hS)
theorem gx_get {idx ci f k : Nat} (v : Value) (hw : zFL own idx ci f) (hd : decode cc pc = .ok (.getfield idx, 3)) (hk : zci k = ci) (hin : zIn k 0 = true) (hl : f < (zfT k).length) (hv : zval E σ k f = v) (kk : GoG E R cz sz own cc nL ret Q J σ (pc + 3) lv (v :: st)) : GoG E R cz sz own cc nL ret Q J σ pc lv (.ref (zA E k 0) :: st) := by
  obtain ⟨CC, T, N, h1, h2, h3⟩ := hw
  intro l p e s m args below meth c H locs ls C hls hP hS
  obtain ⟨i, hi, hi2⟩ := z_at E σ hin
  have hi3 : (zW E σ)[i]? = some (zA E k 0, .inr (ci, (List.range (zfT k).length).map (zval E σ k))) := by rw [hi2]; simp only [zenc]; rw [hk]
  exact va_get (C := CC) (T := T) (N := N) (ref := (T f).1) C.1.1 C.1.2.1 C.1.2.2.2.2.2.2.1 (zCls ci CC T N h1).1 C.1.2.2.2.2.2.1 C.1.2.2.2.2.2.2.2.1 hP i hi3 h1 f h2 (C.1.2.2.2.2.2.2.1 _ h3) (fun _ h => h) (v := v) (by rw [z_obj E σ k f hl, hv]) hd (kk l p e s m args below meth c H locs ls C hls hP hS)
theorem gx_geti {idx ci f k : Nat} (hw : zFL own idx ci f) (hd : decode cc pc = .ok (.getfield idx, 3)) (hf : zfi ci k f = true) (kk : GoG E R cz sz own cc nL ret Q J σ (pc + 3) lv (.int (σ.1 k f) :: st)) : GoG E R cz sz own cc nL ret Q J σ pc lv (.ref (zA E k 0) :: st) :=
  have h := z_fi hf
  gx_get _ hw hd h.1 h.2.2.1 h.2.2.2 (by simp only [zval, h.2.1]) kk
theorem gx_getR {idx f : Nat} (hw : zFL own idx 11 f) (hd : decode cc pc = .ok (.getfield idx, 3)) (hf : zfk 0 f = (2, 0, 0)) (kk : GoG E R cz sz own cc nL ret Q J σ (pc + 3) lv (.ref (zA E (σ.2.2.2 f) 0) :: st)) : GoG E R cz sz own cc nL ret Q J σ pc lv (.ref (zA E 0 0) :: st) :=
  gx_get _ hw hd rfl rfl (z_fl (by rw [hf]; decide)) (by simp only [zval, hf]) kk
theorem gx_laload {k j n : Nat} {x : Int32} (i : Nat) (hd : decode cc pc = .ok (.laload, 1)) (ha : zak k j = (1, n)) (hz : zJn k j = true) (hx : x = nI i) (hi : i < n) (kk : GoG E R cz sz own cc nL ret Q J σ (pc + 1) lv (.long (σ.2.2.1 k i) :: st)) : GoG E R cz sz own cc nL ret Q J σ pc lv (.int x :: .ref (zA E k j) :: st) := by
  obtain ⟨h1, h2, h3, h4⟩ := z_ar ha hz
  subst hx
  intro l p e s m args below meth c H locs ls C hls hP hS
  obtain ⟨q, hq, hq2⟩ := z_at E σ h2
  rw [z_enc1 h1 h3] at hq2
  refine va_lald C.1.1 C.1.2.1 C.1.2.2.2.2.2.2.2.1 hP q 1 hq2 rfl (vp_in_nI hi h4) hd ?_
  rw [nI_clamp (by omega)]
  exact kk l p e s m args below meth c H locs ls C hls hP hS
theorem gx_eq {σ2 : zT} (h : σ = σ2) (k : GoG E R cz sz own cc nL ret Q J σ2 pc lv st) : GoG E R cz sz own cc nL ret Q J σ pc lv st := h ▸ k
theorem gx_top {v w : Value} (h : v = w) (k : GoG E R cz sz own cc nL ret Q J σ pc lv (w :: st)) : GoG E R cz sz own cc nL ret Q J σ pc lv (v :: st) := h ▸ k
theorem gx_at {pc2 : Nat} {lv2 : List (Nat × Value)} {st2 : List Value} (h : pc = pc2) (h2 : lv = lv2) (h3 : st = st2) (k : GoG E R cz sz own cc nL ret Q J σ pc2 lv2 st2) : GoG E R cz sz own cc nL ret Q J σ pc lv st := by
  subst h; subst h2; subst h3; exact k
theorem gx_drop (ks : List Nat) {lv2 : List (Nat × Value)} (hl : lv_pick lv ks = lv2) (k : GoG E R cz sz own cc nL ret Q J σ pc lv2 st) : GoG E R cz sz own cc nL ret Q J σ pc lv st :=
  fun l p e s m args below meth c H locs ls C h0 hP hS => k l p e s m args below meth c H locs ls C (lv_sub h0 ks hl) hP hS
theorem gx_getr2 {idx ci f k a b : Nat} (hw : zFL own idx ci f) (hd : decode cc pc = .ok (.getfield idx, 3)) (hk : zci k = ci) (hin : zIn k 0 = true) (hf : zfk k f = (1, a, b)) (kk : GoG E R cz sz own cc nL ret Q J σ (pc + 3) lv (.ref (zA E a b) :: st)) : GoG E R cz sz own cc nL ret Q J σ pc lv (.ref (zA E k 0) :: st) :=
  gx_get _ hw hd hk hin (z_fl (by rw [hf]; exact (by decide : (1 : Nat) ≠ 9))) (by simp only [zval, hf]) kk
theorem gx_widen {k n : Nat} (h1 : cz ≤ k) (h2 : sz ≤ n) (kk : GoG E R k n own cc nL ret Q J σ pc lv st) : GoG E R cz sz own cc nL ret Q J σ pc lv st :=
  fun l p e s m args below meth c H locs ls C hl hP hS => W.widen h1 h2 (kk l p e s m args below meth c H locs ls C hl hP hS)
/-- behind a call of mc cells and ms slots -/
theorem x_after {P1 : Option Value → zT → Prop} {l : Launch} {p : Program} {e : Env} {s : State} {m : MethodId} {args : Array Value} {below : List Frame} {meth : Method} {c : Code} {H : Heap} {locs : List Loc} {ls : Array Slot} {rest : List Value} {av : Array Value} {mc ms : Nat}
    (C : zCy E own cc nL ret J l p s m args meth c) (hls : lv_has ls nL lv) (hS : va_S (zFr E) s.heap H locs)
    (hr : va_Run p l e R s m args below meth c H locs cz sz mc ms (F0 m pc ls st) rest (zQ E P1 av) (zFr E))
    (kk : ∀ (r : Option Value) (σ' : zT), P1 r σ' → GoG E R (cz + mc) (sz + ms) own cc nL ret Q J σ' (pc + 3) lv (zRet r rest)) :
    W p l e R s m args below meth c H locs cz sz (Q below args s) (F0 m pc ls st) := by
  intro T hT X
  obtain ⟨v, st₀, t, T', L, h0, X', hL, e1, e2, ⟨⟨r, σ', hv, hp, hP1⟩, hz, hk⟩, stp⟩ := hr T hT X
  cases hv
  rw [h0] at hz hk
  obtain ⟨t2, a1, b1⟩ := kk v σ' hp l p e s m args below meth c T'.heap (locs ++ L) ls C hls (by rw [e1]; exact hP1)
    ⟨Nat.le_trans hS.1 (by rw [e1]; exact hz), fun q h1 h2 => by rw [e1, hk q (Nat.lt_of_lt_of_le h1 hS.1) h2]; exact hS.2.1 q h1 h2, fun q hq => by
      rcases List.mem_append.mp hq with h | h
      · exact hS.2.2 q h
      · exact hL q h⟩ T' rfl X'
  rw [← z_ret] at a1
  exact ⟨t2, stp t2 a1, b1⟩
theorem gx_callV {P1 : Option Value → zT → Prop} {y : MethodName} {cb : ByteArray} {mL idx n d2 k : Nat} {rt : Option FieldType} {q : vw_C} {As rest : List Value} (hl : Cond.methodLink own idx y ∈ zG) (hm : zMV y cb mL rt n) (hd : decode cc pc = .ok (.invokevirtual idx, 3))
    (hc : CalM E d2 y cb mL rt (.ref (zA E k 0) :: As) σ P1) (hq : vwCl[zci k]? = some q) (hy : q.1 = y.cls) (hin : zIn k 0 = true) (hdd : d2 + 1 ≤ R.frames ∧ 48 * d2 + 48 ≤ R.locals) (hcs : cz ≤ R.cells ∧ sz ≤ R.slots) (hL : mL ≤ 29) (hn : As.length = n) (hst : zPush (.ref (zA E k 0) :: As) rest = st) (hw : (rest.map fun v => v.category).sum ≤ 8)
    (kk : ∀ (r : Option Value) (σ' : zT), P1 r σ' → GoG E R cz sz own cc nL ret Q J σ' (pc + 3) lv (zRet r rest)) : GoG E R cz sz own cc nL ret Q J σ pc lv st := by
  intro l p e s m args below meth c H locs ls C hls hP hS
  obtain ⟨i, hi, hi2⟩ := z_at E σ hin
  have hrecv := va_recv C.1.2.2.2.2.2.2.2.1 hP hq hi2
  rw [hy] at hrecv
  refine x_after (mc := 0) (ms := 0) C hls hS (va_runV (Ts := zG) (own := own) (C := y.cls) (b := zA E k 0) (As := As) ⟨C.1.1, C.1.2.1, C.1.2.2.1, C.1.2.2.2.2.2.1, C.1.2.2.2.2.2.2.1⟩ (hc l) ⟨z_callB C.1.2.2.2.2.2.2.1 hl hm.1 hdd hL, C.1.2.2.2.2.2.2.1 _ hm.2.1, C.1.2.2.2.2.2.2.1 _ hm.2.2⟩ ⟨z_blind _, hrecv, fun U hU hW => ⟨rfl, z_preU C.1 hP hS hU hW⟩⟩ rfl hn hls.1 ?_ (lv_room hw) hd hcs) kk
  show st = As.reverse ++ .ref (zA E k 0) :: rest
  rw [← hst, z_push]
  simp
def zPreX (E : zE) (σ : zT) (U : State) : Prop := zPre E σ U ∧ zX E U U.heap
theorem x_blind (av : List Value) : FrameBlind (va_Pc av (zPreX E σ)) := fun a U g mk q => by
  obtain ⟨q0, ⟨q1, q2, q3, q4, q5⟩, q6⟩ := q
  exact ⟨q0, ⟨q1, va_K.moved (u := U) (U := U.calling g mk a) (Vm.Alike.refl U.vm) q2, q3, q4, zF.same q5 rfl⟩, zX.same q6 rfl⟩
theorem x_preU {l : Launch} {s U : State} {H : Heap} {locs : List Loc} {p : Program} {m : MethodId} {args : Array Value} {meth : Method} {c : Code} (C : zCy E own cc nL ret J l p s m args meth c) (hP : zP E σ H) (hS : va_S (zFr E) s.heap H locs) (hU : U.heap = H) (hW : s.WarmedH U.vm) : zPreX E σ U :=
  ⟨z_preU C.1 hP hS hU hW, by rw [hU]; exact C.2.1.to hW hS.2.1⟩
/-- room with one cell of six slots: what a throw takes -/
def zRx (d : Nat) : Room := { frames := d, cells := 1, slots := 6, locals := 48 * d }
def xC (E : zE) (σ : zT) : String → State → State → Prop := fun n st t => n = xNS ∧ zP E σ t.heap ∧ va_F (zFr E) st t
/-- y throws, and nothing has changed -/
def CalT (E : zE) (d : Nat) (y : MethodName) (cc : ByteArray) (nL : Nat) (ret : Option FieldType) (args : List Value) (σ : zT) : Prop :=
  ∀ l : Launch, l.stackTraces = false → vx_Met l y (.code y cc nL ret :: zG) (zRx d) (va_Pc args (zPreX E σ)) (fun _ _ _ _ => False) (xC E σ) 1 6 (zFr E)
abbrev xQ (E : zE) (σ : zT) : List Frame → Array Value → State → State → Prop := fun below args s => vx_MQ below (fun _ _ _ _ => False) (xC E σ) args s 1 6 (zFr E)
abbrev xJ0 : Array Value → State → Code → Prop := fun _ _ c => ∀ x ∈ c.exceptionTable.toList, False
theorem calT_of {d : Nat} {y : MethodName} {args : List Value} (ho : y.cls = own) (hy : plainName y.cls = true) (hlen : (lg_sl args).length ≤ nL) (hG : GoG E (zRx d) 0 0 own cc nL ret (xQ E σ) xJ0 σ 0 (lv_args 0 args) []) : CalT E d y cc nL ret args σ := by
  subst ho
  intro l hst
  refine vx_ofW (cc := cc) (maxL := nL) (ret := ret) hy rfl ?_
  intro p e s m a below meth c s₁ B hml ht hv
  obtain ⟨rfl, ⟨hP, hK, hz, hE, hF⟩, hX⟩ := hv
  have hts := atoms_spec (ws := .code y cc nL ret :: zG) B.pre
  have hown : s.vm.findClass y.cls = some m.cls := findClass_of_methodNamed B.named
  have hl := lv_entry args (n := nL) hlen
  rw [lg_entry_eq]
  exact hG l p e s m args.toArray below meth c s.heap [] _ ⟨⟨B.exec, B.bytes, hml, B.returns, B.notSynchronized, hown, fun w hw => hts w (List.mem_cons_of_mem _ hw), hK, hz, hE, hF⟩, hX, hst, ht⟩ hl hP va_S.rf
def xAt : List Cond := vx_at0 RX11 149 xNS ["java/lang/RuntimeException", "java/lang/Exception"]
theorem xAt_good : ∀ w ∈ xAt.filter goodWord, w ∈ zG := by
  intro w hw
  have h := List.mem_filter.mp hw
  refine List.mem_filter.mpr ⟨?_, h.2⟩
  exact (by decide +kernel : ∀ w ∈ xAt.filter goodWord, w ∈ lw_tbl) w hw
theorem xAt_bad : ∀ w ∈ xAt.filter (fun w => !goodWord w), w ∈ [xD "java/lang/RuntimeException", xD "java/lang/Exception", xD "java/lang/Throwable", .castable xNS xNS] := by decide +kernel
theorem xAt_ot : ∀ w ∈ Cond.classLink RX11 147 xNS :: Cond.initialized xNS :: xAt, vx_ot w = true := by decide +kernel
theorem gx_throw {d pc : Nat} (hd6 : 6 ≤ d) (hcat : (st.map fun v => v.category).sum ≤ 8) (hk : Cond.classLink RX11 147 xNS ∈ zG) (hi : Cond.initialized xNS ∈ zG)
    (d0 : decode cc pc = .ok (.new 147, 3)) (d3 : decode cc (pc + 3) = .ok (.dup, 1)) (d4 : decode cc (pc + 4) = .ok (.invokespecial 149, 3)) (d7 : decode cc (pc + 7) = .ok (.athrow, 1)) :
    GoG E (zRx d) 0 0 RX11 cc nL ret (xQ E σ) xJ0 σ pc lv st := by
  intro l p e s m args below meth c H locs ls C hls hP hS
  obtain ⟨C, hX, hst, hJ⟩ := C
  refine vx_throw0 (A := zFr E) (own := RX11) (cls := xNS) (names := ["java/lang/RuntimeException", "java/lang/Exception"]) (ik := 147) (ic := 149) C.1 C.2.1 hst C.2.2.2.2.2.1 (by decide +kernel) (by decide +kernel) (C.2.2.2.2.2.2.1 _ hk) (C.2.2.2.2.2.2.1 _ hi)
    (vx_hat (B := [xD "java/lang/RuntimeException", xD "java/lang/Exception", xD "java/lang/Throwable", .castable xNS xNS]) (fun w hw => C.2.2.2.2.2.2.1 w (xAt_good w hw)) xAt_bad (vx_c (hX.1.use rfl) (vx_c (hX.2.1.use rfl) (vx_c (hX.2.2.1.use rfl) (vx_c (hX.2.2.2.1.use rfl) vx_n)))))
    xAt_ot hX.2.2.2.2.1 hX.2.2.2.2.2 hS (hls.1.trans C.2.2.1.symm) d0 d3 d4 d7 (fun x hx => absurd (hJ x hx) id) ?_ ?_ ?_ ?_ C.2.2.2.2.1 ?_ hS.2.2 ?_ ?_
  · show 2 + 3 < d
    omega
  · show _ + (13 * (2 + 1) + 42) ≤ 48 * d
    omega
  · show 0 + 1 ≤ 1
    decide
  · show 0 + 6 ≤ 6
    decide
  · intro t _ h1 h2
    refine ⟨rfl, va_P.kept hP (fun k q hk => ?_), Nat.le_trans hS.1 h1, fun q h3 h4 => ?_⟩
    · exact h2 q.1 (hP k q hk).lt
    · rw [h2 q (Nat.lt_of_lt_of_le h3 hS.1)]
      exact hS.2.1 q h3 h4
  · decide
  · decide
end GxRules

