theorem zi_obj : Cond.instanceMethod objectInit ∈ zG := zg1 32 rfl rfl
theorem zc_obj : Cond.code objectInit ⟨#[0xb1]⟩ 1 none ∈ zG := zg1 33 rfl rfl
theorem za_int : Cond.arrayClass .int ∈ zG := zg1 47 rfl rfl
theorem za_long : Cond.arrayClass .long ∈ zG := zg1 221 rfl rfl
theorem za_bool : Cond.arrayClass .boolean ∈ zG := zg6 47 rfl rfl
theorem gc_iastL {E : zE} {A : Nat → Prop} {R : Room} {cz sz : Nat} {own : String} {cc : ByteArray} {nL : Nat} {ret : Option FieldType} {J : Launch → State → Array Value → Method → Code → Prop} {Q : List Frame → Array Value → State → State → Prop} {w : va_W} {pc : Nat} {lv : List (Nat × Value)} {st : List Value} {a n : Nat} {f : Nat → Int32} {x y : Int32} (i : Nat) (hx : x = nI i) (hi : i < n) (hn : n < 2 ^ 31) (hd : decode cc pc = .ok (.iastore, 1))
    (kk : GoC E A R cz sz own cc nL ret J Q (w ++ [(a, .inl (zC E 0, n, .inl (upd f i y)))]) (pc + 1) lv st) : GoC E A R cz sz own cc nL ret J Q (w ++ [(a, .inl (zC E 0, n, .inl f))]) pc lv (.int y :: .int x :: .ref a :: st) :=
  gc_iast (k := w.length) (f := f) i 0 (by simp) hx hi hn hd (gc_world (by simp) kk)
theorem kc_int (n : Nat) : ∀ cA : ClassId, vp_cell cA (n, .inl (fun _ => 0)) = arrV cA n (fun _ => defaultValue .int) := fun _ => rfl
theorem kc_bool (n : Nat) : ∀ cA : ClassId, vp_cell cA (n, .inl (fun _ => 0)) = arrV cA n (fun _ => defaultValue .boolean) := fun _ => rfl
theorem kc_long (n : Nat) : ∀ cA : ClassId, vp_cell cA (n, .inr (.inl (fun _ => 0))) = arrV cA n (fun _ => defaultValue .long) := fun _ => rfl

theorem fk_X8_9 : kFP RX8 9 8 0 (.array .int) := ⟨RX8, TX8, 2, rfl, by decide, zg1 40 rfl rfl, rfl, rfl, by decide +kernel⟩
def w_X8 (E : zE) (h a1 : Nat) : va_W := [(h, .inr (8, [.ref a1, .int 0])), (a1, .inl (zC E 0, 80, .inl (fun _ => 0)))]
theorem k_X8 {E : zE} {h : Nat} : CtM E 1 yX8_init cX8_init 1 [(h, .inr (8, [.null, .int 0]))] [.ref h] (fun w => ∃ a1, w = w_X8 E h a1) 1 80 := by
  refine ctM_of (own := RX8) rfl (by decide +kernel) (Nat.le_of_ble_eq_true rfl) (fun A => ?_)
  refine gc_aload_n (i := 0) (pc := 0) dX8_init_0 rfl rfl ?_
  refine gc_obj ml_X8_3 zi_obj zc_obj (pc := 1) dX8_init_1 (by decide) (Nat.le_of_ble_eq_true rfl) ?_
  refine gc_aload_n (i := 0) (pc := 4) dX8_init_4 rfl rfl ?_
  refine gc_bipush (nI 80) (pc := 5) dX8_init_5 (by decide) ?_
  refine gc_newa (atype := .int) (ty := .int) (a0 := (80, .inl (fun _ => 0))) 80 0 za_int rfl (fun _ => rfl) (fun _ h => by cases h) (kc_int 80) rfl (by decide) (by decide) (Nat.le_of_ble_eq_true rfl) (Nat.le_of_ble_eq_true rfl) (pc := 7) dX8_init_7 (fun a1 => ?_)
  rw [List.cons_append]
  refine gc_putF (fun _ _ _ _ _ h => h) fk_X8_9 (pc := 9) dX8_init_9 rfl rfl (Nat.le_of_ble_eq_true rfl) ?_
  exact gc_return dX8_init_12 rfl (by decide) (by decide) ⟨a1, rfl⟩
theorem fk_X0_9 : kFP RX0 9 0 0 (.array .int) := ⟨RX0, TX0, 3, rfl, by decide, zg1 54 rfl rfl, rfl, rfl, by decide +kernel⟩
theorem fk_X0_15 : kFP RX0 15 0 1 (.array .int) := ⟨RX0, TX0, 3, rfl, by decide, zg1 55 rfl rfl, rfl, rfl, by decide +kernel⟩
def w_X0 (E : zE) (h a1 a2 : Nat) : va_W := [(h, .inr (0, [.ref a1, .ref a2, .int 0])), (a1, .inl (zC E 0, 8, .inl (fun _ => 0))), (a2, .inl (zC E 0, 8, .inl (fun _ => 0)))]
theorem k_X0 {E : zE} {h : Nat} : CtM E 1 yX0_init cX0_init 1 [(h, .inr (0, [.null, .null, .int 0]))] [.ref h] (fun w => ∃ a1 a2, w = w_X0 E h a1 a2) 2 16 := by
  refine ctM_of (own := RX0) rfl (by decide +kernel) (Nat.le_of_ble_eq_true rfl) (fun A => ?_)
  refine gc_aload_n (i := 0) (pc := 0) dX0_init_0 rfl rfl ?_
  refine gc_obj ml_X0_3 zi_obj zc_obj (pc := 1) dX0_init_1 (by decide) (Nat.le_of_ble_eq_true rfl) ?_
  refine gc_aload_n (i := 0) (pc := 4) dX0_init_4 rfl rfl ?_
  refine gc_bipush (nI 8) (pc := 5) dX0_init_5 (by decide) ?_
  refine gc_newa (atype := .int) (ty := .int) (a0 := (8, .inl (fun _ => 0))) 8 0 za_int rfl (fun _ => rfl) (fun _ h => by cases h) (kc_int 8) rfl (by decide) (by decide) (Nat.le_of_ble_eq_true rfl) (Nat.le_of_ble_eq_true rfl) (pc := 7) dX0_init_7 (fun a1 => ?_)
  rw [List.cons_append]
  refine gc_putF (fun _ _ _ _ _ h => h) fk_X0_9 (pc := 9) dX0_init_9 rfl rfl (Nat.le_of_ble_eq_true rfl) ?_
  refine gc_aload_n (i := 0) (pc := 12) dX0_init_12 rfl rfl ?_
  refine gc_bipush (nI 8) (pc := 13) dX0_init_13 (by decide) ?_
  refine gc_newa (atype := .int) (ty := .int) (a0 := (8, .inl (fun _ => 0))) 8 0 za_int rfl (fun _ => rfl) (fun _ h => by cases h) (kc_int 8) rfl (by decide) (by decide) (Nat.le_of_ble_eq_true rfl) (Nat.le_of_ble_eq_true rfl) (pc := 15) dX0_init_15 (fun a2 => ?_)
  rw [List.cons_append]
  refine gc_putF (fun _ _ _ _ _ h => h) fk_X0_15 (pc := 17) dX0_init_17 rfl rfl (Nat.le_of_ble_eq_true rfl) ?_
  exact gc_return dX0_init_20 rfl (by decide) (by decide) ⟨a1, a2, rfl⟩
theorem fk_X10_9 : kFP RX10 9 10 0 (.array .int) := ⟨RX10, TX10, 3, rfl, by decide, zg1 83 rfl rfl, rfl, rfl, by decide +kernel⟩
theorem fk_X10_15 : kFP RX10 15 10 1 (.array .int) := ⟨RX10, TX10, 3, rfl, by decide, zg1 84 rfl rfl, rfl, rfl, by decide +kernel⟩
def w_X10 (E : zE) (h a1 a2 : Nat) : va_W := [(h, .inr (10, [.ref a1, .ref a2, .int 0])), (a1, .inl (zC E 0, 8, .inl (fun _ => 0))), (a2, .inl (zC E 0, 8, .inl (fun _ => 0)))]
theorem k_X10 {E : zE} {h : Nat} : CtM E 1 yX10_init cX10_init 1 [(h, .inr (10, [.null, .null, .int 0]))] [.ref h] (fun w => ∃ a1 a2, w = w_X10 E h a1 a2) 2 16 := by
  refine ctM_of (own := RX10) rfl (by decide +kernel) (Nat.le_of_ble_eq_true rfl) (fun A => ?_)
  refine gc_aload_n (i := 0) (pc := 0) dX10_init_0 rfl rfl ?_
  refine gc_obj ml_X10_3 zi_obj zc_obj (pc := 1) dX10_init_1 (by decide) (Nat.le_of_ble_eq_true rfl) ?_
  refine gc_aload_n (i := 0) (pc := 4) dX10_init_4 rfl rfl ?_
  refine gc_bipush (nI 8) (pc := 5) dX10_init_5 (by decide) ?_
  refine gc_newa (atype := .int) (ty := .int) (a0 := (8, .inl (fun _ => 0))) 8 0 za_int rfl (fun _ => rfl) (fun _ h => by cases h) (kc_int 8) rfl (by decide) (by decide) (Nat.le_of_ble_eq_true rfl) (Nat.le_of_ble_eq_true rfl) (pc := 7) dX10_init_7 (fun a1 => ?_)
  rw [List.cons_append]
  refine gc_putF (fun _ _ _ _ _ h => h) fk_X10_9 (pc := 9) dX10_init_9 rfl rfl (Nat.le_of_ble_eq_true rfl) ?_
  refine gc_aload_n (i := 0) (pc := 12) dX10_init_12 rfl rfl ?_
  refine gc_bipush (nI 8) (pc := 13) dX10_init_13 (by decide) ?_
  refine gc_newa (atype := .int) (ty := .int) (a0 := (8, .inl (fun _ => 0))) 8 0 za_int rfl (fun _ => rfl) (fun _ h => by cases h) (kc_int 8) rfl (by decide) (by decide) (Nat.le_of_ble_eq_true rfl) (Nat.le_of_ble_eq_true rfl) (pc := 15) dX10_init_15 (fun a2 => ?_)
  rw [List.cons_append]
  refine gc_putF (fun _ _ _ _ _ h => h) fk_X10_15 (pc := 17) dX10_init_17 rfl rfl (Nat.le_of_ble_eq_true rfl) ?_
  exact gc_return dX10_init_20 rfl (by decide) (by decide) ⟨a1, a2, rfl⟩
theorem fk_X2_9 : kFP RX2 9 2 0 (.array .int) := ⟨RX2, TX2, 10, rfl, by decide, zg1 127 rfl rfl, rfl, rfl, by decide +kernel⟩
theorem fk_X2_15 : kFP RX2 15 2 1 (.array .int) := ⟨RX2, TX2, 10, rfl, by decide, zg1 128 rfl rfl, rfl, rfl, by decide +kernel⟩
def w_X2 (E : zE) (h a1 a2 : Nat) : va_W := [(h, .inr (2, [.ref a1, .ref a2, .int (nI 1), .int 0, .int 0, .int 0, .int (nI 5), .int (nI 20), .int 0, .int 0])), (a1, .inl (zC E 0, 12, .inl (fun _ => 0))), (a2, .inl (zC E 0, 12, .inl (fun _ => 0)))]
theorem k_X2 {E : zE} {h : Nat} : CtM E 1 yX2_init cX2_init 1 [(h, .inr (2, [.null, .null, .int 0, .int 0, .int 0, .int 0, .int 0, .int 0, .int 0, .int 0]))] [.ref h] (fun w => ∃ a1 a2, w = w_X2 E h a1 a2) 2 24 := by
  refine ctM_of (own := RX2) rfl (by decide +kernel) (Nat.le_of_ble_eq_true rfl) (fun A => ?_)
  refine gc_aload_n (i := 0) (pc := 0) dX2_init_0 rfl rfl ?_
  refine gc_obj ml_X2_3 zi_obj zc_obj (pc := 1) dX2_init_1 (by decide) (Nat.le_of_ble_eq_true rfl) ?_
  refine gc_aload_n (i := 0) (pc := 4) dX2_init_4 rfl rfl ?_
  refine gc_bipush (nI 12) (pc := 5) dX2_init_5 (by decide) ?_
  refine gc_newa (atype := .int) (ty := .int) (a0 := (12, .inl (fun _ => 0))) 12 0 za_int rfl (fun _ => rfl) (fun _ h => by cases h) (kc_int 12) rfl (by decide) (by decide) (Nat.le_of_ble_eq_true rfl) (Nat.le_of_ble_eq_true rfl) (pc := 7) dX2_init_7 (fun a1 => ?_)
  rw [List.cons_append]
  refine gc_putF (fun _ _ _ _ _ h => h) fk_X2_9 (pc := 9) dX2_init_9 rfl rfl (Nat.le_of_ble_eq_true rfl) ?_
  refine gc_aload_n (i := 0) (pc := 12) dX2_init_12 rfl rfl ?_
  refine gc_bipush (nI 12) (pc := 13) dX2_init_13 (by decide) ?_
  refine gc_newa (atype := .int) (ty := .int) (a0 := (12, .inl (fun _ => 0))) 12 0 za_int rfl (fun _ => rfl) (fun _ h => by cases h) (kc_int 12) rfl (by decide) (by decide) (Nat.le_of_ble_eq_true rfl) (Nat.le_of_ble_eq_true rfl) (pc := 15) dX2_init_15 (fun a2 => ?_)
  rw [List.cons_append]
  refine gc_putF (fun _ _ _ _ _ h => h) fk_X2_15 (pc := 17) dX2_init_17 rfl rfl (Nat.le_of_ble_eq_true rfl) ?_
  refine gc_aload_n (i := 0) (pc := 20) dX2_init_20 rfl rfl ?_
  refine gc_iconst (nI 1) (pc := 21) dX2_init_21 (by decide) ?_
  refine gc_put fp_X2_18 (pc := 22) dX2_init_22 rfl rfl (Nat.le_of_ble_eq_true rfl) ?_
  refine gc_aload_n (i := 0) (pc := 25) dX2_init_25 rfl rfl ?_
  refine gc_iconst (nI 5) (pc := 26) dX2_init_26 (by decide) ?_
  refine gc_put fp_X2_22 (pc := 27) dX2_init_27 rfl rfl (Nat.le_of_ble_eq_true rfl) ?_
  refine gc_aload_n (i := 0) (pc := 30) dX2_init_30 rfl rfl ?_
  refine gc_bipush (nI 20) (pc := 31) dX2_init_31 (by decide) ?_
  refine gc_put fp_X2_25 (pc := 33) dX2_init_33 rfl rfl (Nat.le_of_ble_eq_true rfl) ?_
  exact gc_return dX2_init_36 rfl (by decide) (by decide) ⟨a1, a2, rfl⟩
theorem fk_X5_9 : kFP RX5 9 5 0 (.array .int) := ⟨RX5, TX5, 3, rfl, by decide, zg1 198 rfl rfl, rfl, rfl, by decide +kernel⟩
theorem fk_X5_13 : kFP RX5 13 5 1 (.array .int) := ⟨RX5, TX5, 3, rfl, by decide, zg1 199 rfl rfl, rfl, rfl, by decide +kernel⟩
def w_X5 (E : zE) (h a1 a2 : Nat) : va_W := [(h, .inr (5, [.ref a1, .ref a2, .int 0])), (a1, .inl (zC E 0, 12, .inl (fun _ => 0))), (a2, .inl (zC E 0, 12, .inl (fun _ => 0)))]
theorem k_X5 {E : zE} {h : Nat} : CtM E 1 yX5_init cX5_init 1 [(h, .inr (5, [.null, .null, .int 0]))] [.ref h] (fun w => ∃ a1 a2, w = w_X5 E h a1 a2) 2 24 := by
  refine ctM_of (own := RX5) rfl (by decide +kernel) (Nat.le_of_ble_eq_true rfl) (fun A => ?_)
  refine gc_aload_n (i := 0) (pc := 0) dX5_init_0 rfl rfl ?_
  refine gc_obj ml_X5_1 zi_obj zc_obj (pc := 1) dX5_init_1 (by decide) (Nat.le_of_ble_eq_true rfl) ?_
  refine gc_aload_n (i := 0) (pc := 4) dX5_init_4 rfl rfl ?_
  refine gc_bipush (nI 12) (pc := 5) dX5_init_5 (by decide) ?_
  refine gc_newa (atype := .int) (ty := .int) (a0 := (12, .inl (fun _ => 0))) 12 0 za_int rfl (fun _ => rfl) (fun _ h => by cases h) (kc_int 12) rfl (by decide) (by decide) (Nat.le_of_ble_eq_true rfl) (Nat.le_of_ble_eq_true rfl) (pc := 7) dX5_init_7 (fun a1 => ?_)
  rw [List.cons_append]
  refine gc_putF (fun _ _ _ _ _ h => h) fk_X5_9 (pc := 9) dX5_init_9 rfl rfl (Nat.le_of_ble_eq_true rfl) ?_
  refine gc_aload_n (i := 0) (pc := 12) dX5_init_12 rfl rfl ?_
  refine gc_bipush (nI 12) (pc := 13) dX5_init_13 (by decide) ?_
  refine gc_newa (atype := .int) (ty := .int) (a0 := (12, .inl (fun _ => 0))) 12 0 za_int rfl (fun _ => rfl) (fun _ h => by cases h) (kc_int 12) rfl (by decide) (by decide) (Nat.le_of_ble_eq_true rfl) (Nat.le_of_ble_eq_true rfl) (pc := 15) dX5_init_15 (fun a2 => ?_)
  rw [List.cons_append]
  refine gc_putF (fun _ _ _ _ _ h => h) fk_X5_13 (pc := 17) dX5_init_17 rfl rfl (Nat.le_of_ble_eq_true rfl) ?_
  exact gc_return dX5_init_20 rfl (by decide) (by decide) ⟨a1, a2, rfl⟩
theorem fk_X9_9 : kFP RX9 9 9 0 (.array .long) := ⟨RX9, TX9, 2, rfl, by decide, zg1 214 rfl rfl, rfl, rfl, by decide +kernel⟩
def w_X9 (E : zE) (h a1 : Nat) : va_W := [(h, .inr (9, [.ref a1, .int 0])), (a1, .inl (zC E 1, 12, .inr (.inl (fun _ => 0))))]
theorem k_X9 {E : zE} {h : Nat} : CtM E 1 yX9_init cX9_init 1 [(h, .inr (9, [.null, .int 0]))] [.ref h] (fun w => ∃ a1, w = w_X9 E h a1) 1 12 := by
  refine ctM_of (own := RX9) rfl (by decide +kernel) (Nat.le_of_ble_eq_true rfl) (fun A => ?_)
  refine gc_aload_n (i := 0) (pc := 0) dX9_init_0 rfl rfl ?_
  refine gc_obj ml_X9_3 zi_obj zc_obj (pc := 1) dX9_init_1 (by decide) (Nat.le_of_ble_eq_true rfl) ?_
  refine gc_aload_n (i := 0) (pc := 4) dX9_init_4 rfl rfl ?_
  refine gc_bipush (nI 12) (pc := 5) dX9_init_5 (by decide) ?_
  refine gc_newa (atype := .long) (ty := .long) (a0 := (12, .inr (.inl (fun _ => 0)))) 12 1 za_long rfl (fun _ => rfl) (fun _ h => by cases h) (kc_long 12) rfl (by decide) (by decide) (Nat.le_of_ble_eq_true rfl) (Nat.le_of_ble_eq_true rfl) (pc := 7) dX9_init_7 (fun a1 => ?_)
  rw [List.cons_append]
  refine gc_putF (fun _ _ _ _ _ h => h) fk_X9_9 (pc := 9) dX9_init_9 rfl rfl (Nat.le_of_ble_eq_true rfl) ?_
  exact gc_return dX9_init_12 rfl (by decide) (by decide) ⟨a1, rfl⟩
theorem fk_X7_9 : kFP RX7 9 7 0 (.array .int) := ⟨RX7, TX7, 2, rfl, by decide, zg1 70 rfl rfl, rfl, rfl, by decide +kernel⟩
def w_X7 (E : zE) (h a1 : Nat) : va_W := [(h, .inr (7, [.ref a1, .int (nI 1)])), (a1, .inl (zC E 0, 20, .inl (upd (fun _ => 0) 0 (nI 102))))]
theorem k_X7 {E : zE} {h : Nat} : CtM E 1 yX7_init cX7_init 1 [(h, .inr (7, [.null, .int 0]))] [.ref h] (fun w => ∃ a1, w = w_X7 E h a1) 1 20 := by
  refine ctM_of (own := RX7) rfl (by decide +kernel) (Nat.le_of_ble_eq_true rfl) (fun A => ?_)
  refine gc_aload_n (i := 0) (pc := 0) dX7_init_0 rfl rfl ?_
  refine gc_obj ml_X7_3 zi_obj zc_obj (pc := 1) dX7_init_1 (by decide) (Nat.le_of_ble_eq_true rfl) ?_
  refine gc_aload_n (i := 0) (pc := 4) dX7_init_4 rfl rfl ?_
  refine gc_bipush (nI 20) (pc := 5) dX7_init_5 (by decide) ?_
  refine gc_newa (atype := .int) (ty := .int) (a0 := (20, .inl (fun _ => 0))) 20 0 za_int rfl (fun _ => rfl) (fun _ h => by cases h) (kc_int 20) rfl (by decide) (by decide) (Nat.le_of_ble_eq_true rfl) (Nat.le_of_ble_eq_true rfl) (pc := 7) dX7_init_7 (fun a1 => ?_)
  rw [List.cons_append]
  refine gc_putF (fun _ _ _ _ _ h => h) fk_X7_9 (pc := 9) dX7_init_9 rfl rfl (Nat.le_of_ble_eq_true rfl) ?_
  refine gc_aload_n (i := 0) (pc := 12) dX7_init_12 rfl rfl ?_
  refine gc_iconst (nI 1) (pc := 13) dX7_init_13 (by decide) ?_
  refine gc_put fp_X7_15 (pc := 14) dX7_init_14 rfl rfl (Nat.le_of_ble_eq_true rfl) ?_
  refine gc_aload_n (i := 0) (pc := 17) dX7_init_17 rfl rfl ?_
  refine gc_get fl_X7_9 (pc := 18) dX7_init_18 rfl ?_
  refine gc_iconst (nI 0) (pc := 21) dX7_init_21 (by decide) ?_
  refine gc_bipush (nI 102) (pc := 22) dX7_init_22 (by decide) ?_
  refine gc_iast (k := 1) 0 0 rfl rfl (by decide) (by decide) (pc := 24) dX7_init_24 ?_
  exact gc_return dX7_init_25 rfl (by decide) (by decide) ⟨a1, rfl⟩
theorem fk_X1_9 : kFP RX1 9 1 2 (.array .int) := ⟨RX1, TX1, 7, rfl, by decide, zg1 101 rfl rfl, rfl, rfl, by decide +kernel⟩
theorem fk_X1_15 : kFP RX1 15 1 0 (.object "ThornHedge$Band") := ⟨RX1, TX1, 7, rfl, by decide, zg1 99 rfl rfl, rfl, rfl, by decide +kernel⟩
theorem fk_X1_19 : kFP RX1 19 1 1 (.object "ThornHedge$Sky") := ⟨RX1, TX1, 7, rfl, by decide, zg1 100 rfl rfl, rfl, rfl, by decide +kernel⟩
def w_X1 (E : zE) (h p1 p2 a1 : Nat) : va_W := [(h, .inr (1, [.ref p1, .ref p2, .ref a1, .int 0, .int 0, .int 0, .int 0])), (a1, .inl (zC E 0, 12, .inl (fun _ => 0)))]
theorem k_X1 {E : zE} {h p1 p2 : Nat} : CtM E 1 yX1_init cX1_init 3 [(h, .inr (1, [.null, .null, .null, .int 0, .int 0, .int 0, .int 0]))] [.ref h, .ref p1, .ref p2] (fun w => ∃ a1, w = w_X1 E h p1 p2 a1) 1 12 := by
  refine ctM_of (own := RX1) rfl (by decide +kernel) (Nat.le_of_ble_eq_true rfl) (fun A => ?_)
  refine gc_aload_n (i := 0) (pc := 0) dX1_init_0 rfl rfl ?_
  refine gc_obj ml_X1_3 zi_obj zc_obj (pc := 1) dX1_init_1 (by decide) (Nat.le_of_ble_eq_true rfl) ?_
  refine gc_aload_n (i := 0) (pc := 4) dX1_init_4 rfl rfl ?_
  refine gc_bipush (nI 12) (pc := 5) dX1_init_5 (by decide) ?_
  refine gc_newa (atype := .int) (ty := .int) (a0 := (12, .inl (fun _ => 0))) 12 0 za_int rfl (fun _ => rfl) (fun _ h => by cases h) (kc_int 12) rfl (by decide) (by decide) (Nat.le_of_ble_eq_true rfl) (Nat.le_of_ble_eq_true rfl) (pc := 7) dX1_init_7 (fun a1 => ?_)
  rw [List.cons_append]
  refine gc_putF (fun _ _ _ _ _ h => h) fk_X1_9 (pc := 9) dX1_init_9 rfl rfl (Nat.le_of_ble_eq_true rfl) ?_
  refine gc_aload_n (i := 0) (pc := 12) dX1_init_12 rfl rfl ?_
  refine gc_aload_n (i := 1) (pc := 13) dX1_init_13 rfl rfl ?_
  refine gc_putF (fun _ _ _ _ _ h => h) fk_X1_15 (pc := 14) dX1_init_14 rfl rfl (Nat.le_of_ble_eq_true rfl) ?_
  refine gc_aload_n (i := 0) (pc := 17) dX1_init_17 rfl rfl ?_
  refine gc_aload_n (i := 2) (pc := 18) dX1_init_18 rfl rfl ?_
  refine gc_putF (fun _ _ _ _ _ h => h) fk_X1_19 (pc := 19) dX1_init_19 rfl rfl (Nat.le_of_ble_eq_true rfl) ?_
  exact gc_return dX1_init_22 rfl (by decide) (by decide) ⟨a1, rfl⟩
def usF : Nat → (Nat → Int32)
  | 0 => fun _ => 0
  | i + 1 => upd (usF i) i (zUs i)

theorem k_addStep {E : zE} {h b1 b2 b3 b4 n : Nat} {f : Nat → Int32} {tl : va_W} {x : Int32} (hn : n < 40) : CtM E 1 yX4_addStep cX4_addStep 2 ((h, .inr (4, [.ref b1, .ref b2, .ref b3, .ref b4, .int (nI n), .int 0, .int 0, .int 0, .int 0])) :: (b1, .inl (zC E 0, 40, .inl (f))) :: tl) [.ref h, .int x] (fun w => w = (h, .inr (4, [.ref b1, .ref b2, .ref b3, .ref b4, .int (nI (n + 1)), .int 0, .int 0, .int 0, .int 0])) :: (b1, .inl (zC E 0, 40, .inl (upd f n x))) :: tl) 0 0 := by
  refine ctM_of (own := RX4) rfl (by decide +kernel) (Nat.le_of_ble_eq_true rfl) (fun A => ?_)
  refine gc_aload_n (i := 0) (pc := 0) dX4_addStep_0 rfl rfl ?_
  refine gc_get fl_X4_27 (pc := 1) dX4_addStep_1 rfl ?_
  refine gc_if_lt 36 (pc := 4) dX4_addStep_4 (by decide) (fun h4 => absurd h4 (nI_pos (by omega))) (fun h4 => ?_)
  refine gc_aload_n (i := 0) (pc := 7) dX4_addStep_7 rfl rfl ?_
  refine gc_get fl_X4_27 (pc := 8) dX4_addStep_8 rfl ?_
  refine gc_bipush (nI 40) (pc := 11) dX4_addStep_11 (by decide) ?_
  refine gc_icmp_ge 36 (pc := 13) dX4_addStep_13 (by decide) (fun h13 => absurd ((nI_leI (by decide) (by omega)).mp h13) (by omega)) (fun h13 => ?_)
  refine gc_aload_n (i := 0) (pc := 16) dX4_addStep_16 rfl rfl ?_
  refine gc_get fl_X4_9 (pc := 17) dX4_addStep_17 rfl ?_
  refine gc_aload_n (i := 0) (pc := 20) dX4_addStep_20 rfl rfl ?_
  refine gc_get fl_X4_27 (pc := 21) dX4_addStep_21 rfl ?_
  refine gc_iload_n (i := 1) (pc := 24) dX4_addStep_24 rfl rfl ?_
  refine gc_iast (k := 1) n 0 rfl rfl hn (by decide) (pc := 25) dX4_addStep_25 ?_
  refine gc_world (w2 := (h, .inr (4, [.ref b1, .ref b2, .ref b3, .ref b4, .int (nI n), .int 0, .int 0, .int 0, .int 0])) :: (b1, .inl (zC E 0, 40, .inl (upd f n x))) :: tl) rfl ?_
  refine gc_aload_n (i := 0) (pc := 26) dX4_addStep_26 rfl rfl ?_
  refine gc_dup (pc := 27) dX4_addStep_27 rfl ?_
  refine gc_get fl_X4_27 (pc := 28) dX4_addStep_28 rfl ?_
  refine gc_iconst (nI 1) (pc := 31) dX4_addStep_31 (by decide) ?_
  refine gc_iaddN (pc := 32) dX4_addStep_32 ?_
  refine gc_put fp_X4_27 (pc := 33) dX4_addStep_33 rfl rfl (Nat.le_of_ble_eq_true rfl) ?_
  exact gc_return dX4_addStep_36 rfl (by decide) (by decide) rfl
theorem k_beUsual {E : zE} {h b1 b2 b3 b4 : Nat} {tl : va_W} : CtM E 2 yX4_beUsual cX4_beUsual 2 ((h, .inr (4, [.ref b1, .ref b2, .ref b3, .ref b4, .int (nI 0), .int 0, .int 0, .int 0, .int 0])) :: (b1, .inl (zC E 0, 40, .inl (usF 0))) :: tl) [.ref h] (fun w => w = (h, .inr (4, [.ref b1, .ref b2, .ref b3, .ref b4, .int (nI 7), .int 0, .int 0, .int 0, .int 0])) :: (b1, .inl (zC E 0, 40, .inl (usF 7))) :: tl) 0 0 := by
  refine ctM_of (own := RX4) rfl (by decide +kernel) (Nat.le_of_ble_eq_true rfl) (fun A => ?_)
  have loop : ∀ z i : Nat, i + z = 7 → GoC E A (kRm 2 0 0) 0 0 RX4 cX4_beUsual 2 none (kJ yX4_beUsual) (kE E A (fun w => w = (h, .inr (4, [.ref b1, .ref b2, .ref b3, .ref b4, .int (nI 7), .int 0, .int 0, .int 0, .int 0])) :: (b1, .inl (zC E 0, 40, .inl (usF 7))) :: tl) 0 0) ((h, .inr (4, [.ref b1, .ref b2, .ref b3, .ref b4, .int (nI i), .int 0, .int 0, .int 0, .int 0])) :: (b1, .inl (zC E 0, 40, .inl (usF i))) :: tl) 7 [(0, .ref h), (1, .int (nI i))] [] := by
    intro z
    induction z with
    | zero =>
      intro i hi
      have hi : i = 7 := hi
      subst hi
      refine gc_iload_n (i := 1) (pc := 7) dX4_beUsual_7 rfl rfl ?_
      refine gc_usu fk_X4_31 (pc := 8) dX4_beUsual_8 ?_
      refine gc_ulen (pc := 11) dX4_beUsual_11 ?_
      refine gc_icmp_ge 30 (pc := 12) dX4_beUsual_12 (by decide) (fun h12 => ?_) (fun h12 => absurd (by decide) h12)
      exact gc_return dX4_beUsual_30 rfl (by decide) (by decide) rfl
    | succ z ih =>
      intro i hi
      refine gc_iload_n (i := 1) (pc := 7) dX4_beUsual_7 rfl rfl ?_
      refine gc_usu fk_X4_31 (pc := 8) dX4_beUsual_8 ?_
      refine gc_ulen (pc := 11) dX4_beUsual_11 ?_
      refine gc_icmp_ge 30 (pc := 12) dX4_beUsual_12 (by decide) (fun h12 => absurd ((nI_leI (by decide) (by omega)).mp h12) (by omega)) (fun h12 => ?_)
      refine gc_aload_n (i := 0) (pc := 15) dX4_beUsual_15 rfl rfl ?_
      refine gc_usu fk_X4_31 (pc := 16) dX4_beUsual_16 ?_
      refine gc_iload_n (i := 1) (pc := 19) dX4_beUsual_19 rfl rfl ?_
      refine gc_uat i rfl (by omega) (pc := 20) dX4_beUsual_20 ?_
      refine gc_callV (fun s h1 h2 => h2 _ (h1 _ (Nat.le_refl _))) ml_X4_34 mt_X4_addStep (pc := 21) dX4_beUsual_21 (k_addStep (by omega)) rfl rfl (by decide) (by decide) (by decide) rfl rfl (Nat.le_of_ble_eq_true rfl) (fun w1 hw1 => ?_)
      subst hw1
      refine gc_iincN (pc := 24) dX4_beUsual_24 rfl (by decide) ?_
      refine gc_goto 7 (pc := 27) dX4_beUsual_27 (by decide) ?_
      exact ih (i + 1) (by omega)
  refine gc_aload_n (i := 0) (pc := 0) dX4_beUsual_0 rfl rfl ?_
  refine gc_iconst (nI 0) (pc := 1) dX4_beUsual_1 (by decide) ?_
  refine gc_put fp_X4_27 (pc := 2) dX4_beUsual_2 rfl rfl (Nat.le_of_ble_eq_true rfl) ?_
  refine gc_iconst (nI 0) (pc := 5) dX4_beUsual_5 (by decide) ?_
  refine gc_istore_n (i := 1) (pc := 6) dX4_beUsual_6 rfl (by decide) ?_
  exact loop 7 0 rfl

theorem fk_X4_9 : kFP RX4 9 4 0 (.array .int) := ⟨RX4, TX4, 9, rfl, by decide, zg1 238 rfl rfl, rfl, rfl, by decide +kernel⟩
theorem fk_X4_15 : kFP RX4 15 4 1 (.array .int) := ⟨RX4, TX4, 9, rfl, by decide, zg1 239 rfl rfl, rfl, rfl, by decide +kernel⟩
theorem fk_X4_18 : kFP RX4 18 4 2 (.array .int) := ⟨RX4, TX4, 9, rfl, by decide, zg2 0 rfl rfl, rfl, rfl, by decide +kernel⟩
theorem fk_X4_21 : kFP RX4 21 4 3 (.array .int) := ⟨RX4, TX4, 9, rfl, by decide, zg2 1 rfl rfl, rfl, rfl, by decide +kernel⟩
def w_X4 (E : zE) (h a1 a2 a3 a4 : Nat) : va_W := [(h, .inr (4, [.ref a1, .ref a2, .ref a3, .ref a4, .int (nI 7), .int 0, .int 0, .int 0, .int 0])), (a1, .inl (zC E 0, 40, .inl (usF 7))), (a2, .inl (zC E 0, 40, .inl (fun _ => 0))), (a3, .inl (zC E 0, 40, .inl (fun _ => 0))), (a4, .inl (zC E 0, 5, .inl (fun _ => 0)))]
theorem k_X4 {E : zE} {h : Nat} : CtM E 3 yX4_init cX4_init 1 [(h, .inr (4, [.null, .null, .null, .null, .int 0, .int 0, .int 0, .int 0, .int 0]))] [.ref h] (fun w => ∃ a1 a2 a3 a4, w = w_X4 E h a1 a2 a3 a4) 4 125 := by
  refine ctM_of (own := RX4) rfl (by decide +kernel) (Nat.le_of_ble_eq_true rfl) (fun A => ?_)
  refine gc_aload_n (i := 0) (pc := 0) dX4_init_0 rfl rfl ?_
  refine gc_obj ml_X4_3 zi_obj zc_obj (pc := 1) dX4_init_1 (by decide) (Nat.le_of_ble_eq_true rfl) ?_
  refine gc_aload_n (i := 0) (pc := 4) dX4_init_4 rfl rfl ?_
  refine gc_bipush (nI 40) (pc := 5) dX4_init_5 (by decide) ?_
  refine gc_newa (atype := .int) (ty := .int) (a0 := (40, .inl (fun _ => 0))) 40 0 za_int rfl (fun _ => rfl) (fun _ h => by cases h) (kc_int 40) rfl (by decide) (by decide) (Nat.le_of_ble_eq_true rfl) (Nat.le_of_ble_eq_true rfl) (pc := 7) dX4_init_7 (fun a1 => ?_)
  rw [List.cons_append]
  refine gc_putF (fun _ _ _ _ _ h => h) fk_X4_9 (pc := 9) dX4_init_9 rfl rfl (Nat.le_of_ble_eq_true rfl) ?_
  refine gc_aload_n (i := 0) (pc := 12) dX4_init_12 rfl rfl ?_
  refine gc_bipush (nI 40) (pc := 13) dX4_init_13 (by decide) ?_
  refine gc_newa (atype := .int) (ty := .int) (a0 := (40, .inl (fun _ => 0))) 40 0 za_int rfl (fun _ => rfl) (fun _ h => by cases h) (kc_int 40) rfl (by decide) (by decide) (Nat.le_of_ble_eq_true rfl) (Nat.le_of_ble_eq_true rfl) (pc := 15) dX4_init_15 (fun a2 => ?_)
  rw [List.cons_append]
  refine gc_putF (fun _ _ _ _ _ h => h) fk_X4_15 (pc := 17) dX4_init_17 rfl rfl (Nat.le_of_ble_eq_true rfl) ?_
  refine gc_aload_n (i := 0) (pc := 20) dX4_init_20 rfl rfl ?_
  refine gc_bipush (nI 40) (pc := 21) dX4_init_21 (by decide) ?_
  refine gc_newa (atype := .int) (ty := .int) (a0 := (40, .inl (fun _ => 0))) 40 0 za_int rfl (fun _ => rfl) (fun _ h => by cases h) (kc_int 40) rfl (by decide) (by decide) (Nat.le_of_ble_eq_true rfl) (Nat.le_of_ble_eq_true rfl) (pc := 23) dX4_init_23 (fun a3 => ?_)
  rw [List.cons_append]
  refine gc_putF (fun _ _ _ _ _ h => h) fk_X4_18 (pc := 25) dX4_init_25 rfl rfl (Nat.le_of_ble_eq_true rfl) ?_
  refine gc_aload_n (i := 0) (pc := 28) dX4_init_28 rfl rfl ?_
  refine gc_iconst (nI 5) (pc := 29) dX4_init_29 (by decide) ?_
  refine gc_newa (atype := .int) (ty := .int) (a0 := (5, .inl (fun _ => 0))) 5 0 za_int rfl (fun _ => rfl) (fun _ h => by cases h) (kc_int 5) rfl (by decide) (by decide) (Nat.le_of_ble_eq_true rfl) (Nat.le_of_ble_eq_true rfl) (pc := 30) dX4_init_30 (fun a4 => ?_)
  rw [List.cons_append]
  refine gc_putF (fun _ _ _ _ _ h => h) fk_X4_21 (pc := 32) dX4_init_32 rfl rfl (Nat.le_of_ble_eq_true rfl) ?_
  refine gc_aload_n (i := 0) (pc := 35) dX4_init_35 rfl rfl ?_
  refine gc_world (w2 := (h, .inr (4, [.ref a1, .ref a2, .ref a3, .ref a4, .int (nI 0), .int 0, .int 0, .int 0, .int 0])) :: (a1, .inl (zC E 0, 40, .inl (usF 0))) :: [(a2, .inl (zC E 0, 40, .inl (fun _ => 0))), (a3, .inl (zC E 0, 40, .inl (fun _ => 0))), (a4, .inl (zC E 0, 5, .inl (fun _ => 0)))]) rfl ?_
  refine gc_callV (fun s h1 h2 => h2 _ (h1 _ (Nat.le_refl _))) ml_X4_24 mt_X4_beUsual (pc := 36) dX4_init_36 k_beUsual rfl rfl (by decide) (by decide) (by decide) rfl rfl (Nat.le_of_ble_eq_true rfl) (fun w1 hw1 => ?_)
  subst hw1
  exact gc_return dX4_init_39 rfl (by decide) (by decide) ⟨a1, a2, a3, a4, rfl⟩
