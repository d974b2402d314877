/-! THE CLAIM OUT OF ONE WALK OF THE LAW'S BODY. Your part is whole_start (and what it stands on); all else here is the same for every law, but numbers. -/
def R_law : String := "ThornHedgeLaw"
def lw_P (b : Addr) (xs : List Int32) (args : Array Value) (s : State) : Prop := args = #[.ref b] ∧ s.IntsAt b xs ∧ xs.length ≤ 2560 ∧ (Jvm.Cond.and given_1 narrow_1).before args s = true
def lw_Q (_ : Array Value) (s : State) (o : Outcome) (t : State) : Prop := o = .returned (some (.int 1)) ∧ Framed s o t [] 601024 7293034
def lw_Z (below : List Frame) (a : Array Value) (s : State) : State → Prop := fun t => ∃ o, t.status = .running ∧ Ended t below o ∧ lw_Q a s o t
/-- the law's own end, with 1 on the stack, nothing written that was there before, its room as the claim has it -/
theorem lw_ret {p : Program} {l : Launch} {e : Env} {s : State} {m : MethodId} {below : List Frame} {meth : Method} {c : Code} {b : Nat} (hx : p.tables.exec = Jvm.exec) (hb : c.code = code) (hr : meth.sig.returnType = ret) (hlocks : meth.locks = false) {pc : Nat} {H : Heap} {ls : Array Slot} (hdg : decode code pc = .ok (.ireturn, 1)) : W p l e room_1 s m #[Value.ref b] below meth c H [] 601024 7293034 (lw_Z below #[Value.ref b] s) (F0 m pc ls [.int 1]) := by
  intro T hT X
  obtain ⟨fs, hret, hrun, hended, hW, hframe⟩ := X.leave (v := some (.int 1)) (hlocks := hlocks) (fun h => by rw [hr] at h; cases h)
  have hmeth' : T.vm.method? m = some meth := X.method'
  refine ⟨T.setFrames fs, ?_, .returned (some (.int 1)), hrun, hended, rfl, ⟨_, rfl⟩, hW, hframe⟩
  jvm_step X.here [X.here.top, hx, hb, hdg, hmeth', hr, ret, narrow_b1]
  (try refine ⟨rfl, ?_⟩); (try refine ⟨rfl, ?_⟩)
  first | (intro acts; rw [hret _ acts rfl rfl rfl]) | rw [hret _ _ rfl rfl rfl]
  exact Steps.refl _
/-- what holds at the law's entry: the machine, the code, the tables' words (any of lw_tbl by 'hts w (by decide +kernel)'), the script of L ints xs at the cell b, what the Statement gives of the start (any of its parts by flat_of_before) -/
def lw_At (p : Program) (s : State) (m : MethodId) (meth : Method) (c : Code) (b L : Nat) (xs : Nat → Int32) : Prop :=
  p.tables.exec = Jvm.exec ∧ c.code = code ∧ meth.sig.returnType = ret ∧ c.maxLocals = 8 ∧ s.vm.findClass R_law = some m.cls ∧ (∀ w ∈ lw_tbl, w.before #[Value.ref b] s = true) ∧ va_X b L xs s s.heap ∧ b < s.heap.size ∧ meth.locks = false ∧ (Jvm.Cond.and given_1 narrow_1).before #[Value.ref b] s = true

section LW
variable {E : zE} {R : Room} {cz sz : Nat} {own : String} {cc : ByteArray} {nL : Nat} {ret : Option FieldType} {Q : List Frame → Array Value → State → State → Prop} {J : Array Value → State → Code → Prop} {σ : zT} {pc : Nat} {lv : List (Nat × Value)} {st : List Value}
theorem gx_iaddN {x y : Nat} (hd : decode cc pc = .ok (.iadd, 1)) (k : GoG E R cz sz own cc nL ret Q J σ (pc + 1) lv (.int (nI (x + y)) :: st)) : GoG E R cz sz own cc nL ret Q J σ pc lv (.int (nI y) :: .int (nI x) :: st) := gx_iadd hd (by rw [nI_add]; exact k)
end LW
def lJ (E : zE) (b L : Nat) (xs : Nat → Int32) : Array Value → State → Code → Prop := fun args s _ => args = #[.ref b] ∧ va_X b L xs s s.heap ∧ b < s.heap.size ∧ zS E = s.heap.size
def lQ : List Frame → Array Value → State → State → Prop := fun below args s => lw_Z below args s
/-- the law at pc -/
abbrev GL (E : zE) (b L : Nat) (xs : Nat → Int32) (cz sz : Nat) (σ : zT) (pc : Nat) (lv : List (Nat × Value)) (st : List Value) : Prop := GoG E room_1 cz sz RL cL_law 8 ret lQ (lJ E b L xs) σ pc lv st
abbrev lvL (E : zE) (b j : Nat) : List (Nat × Value) := [(0, .ref b), (1, .ref (zA E 0 0)), (2, .ref (zA E 33 0)), (3, .ref (zA E 34 1)), (4, .int (nI (5 * j)))]
section LR
variable {E : zE} {b L : Nat} {xs : Nat → Int32} {cz sz : Nat} {σ : zT} {pc : Nat} {lv : List (Nat × Value)} {st : List Value}
theorem gl_sld {x : Int32} (i : Nat) (hd : decode cL_law pc = .ok (.iaload, 1)) (hx : x = nI i) (hi : i < L) (hL : L ≤ 2560) (kk : GL E b L xs cz sz σ (pc + 1) lv (.int (xs i) :: st)) : GL E b L xs cz sz σ pc lv (.int x :: .ref b :: st) := by
  subst hx
  intro l p e s m args below meth c H locs ls C hls hP hS
  obtain ⟨h1, hX, hbl, hz⟩ := C.2.2.2
  refine va_sld (A := zFr E) C.1.1 C.1.2.1 hX hbl (by show ¬ zS E ≤ b; omega) hS (vp_in_nI hi (by omega)) hd ?_
  rw [nI_clamp (by omega)]
  exact kk l p e s m args below meth c H locs ls C hls hP hS
theorem gl_slen (hd : decode cL_law pc = .ok (.arraylength, 1)) (kk : GL E b L xs cz sz σ (pc + 1) lv (.int (nI L) :: st)) : GL E b L xs cz sz σ pc lv (.ref b :: st) := by
  intro l p e s m args below meth c H locs ls C hls hP hS
  obtain ⟨h1, hX, hbl, hz⟩ := C.2.2.2
  exact va_slen (A := zFr E) C.1.1 C.1.2.1 hX hbl (by show ¬ zS E ≤ b; omega) hS hd (kk l p e s m args below meth c H locs ls C hls hP hS)
theorem gl_end (hd : decode cL_law pc = .ok (.ireturn, 1)) (hc : cz ≤ 601024) (hs : sz ≤ 7293034) : GL E b L xs cz sz σ pc lv [.int (nI 1)] := by
  intro l p e s m args below meth c H locs ls C hls hP hS
  obtain ⟨rfl, hX, hbl, hz⟩ := C.2.2.2
  refine W.widen hc hs ?_
  refine va_forget (fun q hq => ?_) ?_
  · rw [← hz]; exact hS.2.2 q hq
  · exact lw_ret C.1.1 C.1.2.1 C.1.2.2.2.1 C.1.2.2.2.2.1 hd
end LR
theorem Fr33.sm {σ σ' : zT} (h : Fr33 σ σ') : Sm33 σ σ' := h 33 (Nat.le_refl _)
/-- what a case hands on, at the loop's foot -/
def Fnl (E : zE) (b L : Nat) (xs : Nat → Int32) (j cz sz : Nat) : Prop := ∀ (σ : zT) (tx : Nat × (Nat → Nat)) (bd : Nat × (Nat → Nat) × (Nat → Nat)) (sk : Nat × (Nat → Nat)) (tw : Nat × (Nat → Nat) × (Nat → Nat)) (ys : List Nat) (ld : Nat × (Nat → Nat)) (pa sh : Nat × (Nat → Nat → Nat)) (ru : Nat × (Nat → Nat) × (Nat → Nat)) (to : Nat × (Nat → Int64)) (cz' sz' : Nat),
  ClsIs σ tx bd sk tw ys ld pa sh ru to → RefIs σ tx bd sk tw ys ld pa sh ru to → Bnd (j + 1) ld.2 pa sh → cz' ≤ cz + 1 → sz' ≤ sz + 6 → GL E b L xs cz' sz' σ 1492 (lvL E b j) []
/-- what a case stands on -/
def Beg (L j cz sz : Nat) : Prop := 5 * j + 5 ≤ L ∧ L ≤ 2560 ∧ cz + 1 ≤ 601024 ∧ sz + 6 ≤ 7293034

