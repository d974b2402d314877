/-- i lands, one behind the other -/
def landsW (E : zE) (f : Nat → Nat × Nat × Nat) : Nat → va_W
  | 0 => []
  | i + 1 => landsW E f i ++ w_X2 E (f i).1 (f i).2.1 (f i).2.2
def refsW (f : Nat → Nat × Nat × Nat) (i : Nat) : Nat → Option Nat := fun j => if j < i then some (f j).1 else none
def fset (f : Nat → Nat × Nat × Nat) (i : Nat) (t : Nat × Nat × Nat) : Nat → Nat × Nat × Nat := fun j => if j = i then t else f j
theorem landsW_c {E : zE} {f g : Nat → Nat × Nat × Nat} : ∀ i, (∀ j, j < i → f j = g j) → landsW E f i = landsW E g i
  | 0, _ => rfl
  | i + 1, h => by
    show landsW E f i ++ w_X2 E (f i).1 (f i).2.1 (f i).2.2 = landsW E g i ++ w_X2 E (g i).1 (g i).2.1 (g i).2.2
    rw [landsW_c i (fun j hj => h j (by omega)), h i (by omega)]
theorem refsW_c {f g : Nat → Nat × Nat × Nat} {i : Nat} (h : ∀ j, j < i → f j = g j) : refsW f i = refsW g i := by
  funext j
  unfold refsW
  by_cases hj : j < i
  · rw [if_pos hj, if_pos hj, h j hj]
  · rw [if_neg hj, if_neg hj]
theorem refsW_s {f : Nat → Nat × Nat × Nat} {i : Nat} {t : Nat × Nat × Nat} : va_up (refsW f i) i (some t.1) = refsW (fset f i t) (i + 1) := by
  funext j
  show (if j = i then some t.1 else refsW f i j) = refsW (fset f i t) (i + 1) j
  unfold refsW fset
  by_cases hj : j = i
  · rw [if_pos hj, if_pos (by omega), if_pos hj]
  · rw [if_neg hj]
    by_cases h2 : j < i
    · rw [if_pos h2, if_pos (by omega), if_neg hj]
    · rw [if_neg h2, if_neg (by omega)]
theorem landsW_s {E : zE} {f : Nat → Nat × Nat × Nat} {i : Nat} {t : Nat × Nat × Nat} : landsW E f i ++ w_X2 E t.1 t.2.1 t.2.2 = landsW E (fset f i t) (i + 1) := by
  show _ = landsW E (fset f i t) i ++ w_X2 E (fset f i t i).1 (fset f i t i).2.1 (fset f i t i).2.2
  rw [landsW_c (f := fset f i t) (g := f) i (fun j hj => if_neg (by omega)), show fset f i t i = t from if_pos rfl]
theorem landsW_at {E : zE} {f : Nat → Nat × Nat × Nat} {i q a1 a2 : Nat} : ∃ vs, (landsW E f i ++ w_X2 E q a1 a2)[(landsW E f i).length]? = some (q, .inr (2, vs)) := by
  rw [List.getElem?_append_right (Nat.le_refl _), Nat.sub_self]
  exact ⟨_, rfl⟩

def w_X3 (E : zE) (h qa : Nat) (f : Nat → Nat × Nat × Nat) : va_W := (h, .inr (3, [.ref qa, .int 0, .int 0])) :: (qa, .inl (zC E 3, 15, .inr (.inr (.inr (.inr (refsW f 15)))))) :: landsW E f 15
theorem w_X3_c {E : zE} {h qa : Nat} {f g : Nat → Nat × Nat × Nat} (hh : ∀ j, j < 15 → f j = g j) : w_X3 E h qa f = w_X3 E h qa g := by
  unfold w_X3
  rw [refsW_c hh, landsW_c 15 hh]
theorem fk_X3_11 : kFP RX3 11 3 0 (.array (.object "ThornHedge$Land")) := ⟨RX3, TX3, 3, rfl, by decide, zg1 167 rfl rfl, rfl, rfl, by decide +kernel⟩
theorem kn_X3_9 : kNew RX3 9 2 10 [.null, .null, .int 0, .int 0, .int 0, .int 0, .int 0, .int 0, .int 0, .int 0] := ⟨RX2, TX2, tyX2, rfl, zg1 164 rfl rfl, zg1 122 rfl rfl, zg1 7 rfl rfl, tyX2_ok, fun j hj => by
  rcases (show j = 0 ∨ j = 1 ∨ j = 2 ∨ j = 3 ∨ j = 4 ∨ j = 5 ∨ j = 6 ∨ j = 7 ∨ j = 8 ∨ j = 9 by omega) with rfl | rfl | rfl | rfl | rfl | rfl | rfl | rfl | rfl | rfl <;> rfl⟩
theorem zim_Land : Cond.instanceMethod yX2_init ∈ zG := zg1 124 rfl rfl
theorem zkl_X3 : Cond.classLink RX3 9 RX2 ∈ zG := zg1 164 rfl rfl
theorem k_X3 {E : zE} {h : Nat} : CtM E 2 yX3_init cX3_init 2 [(h, .inr (3, [.null, .int 0, .int 0]))] [.ref h] (fun w => ∃ qa f, w = w_X3 E h qa f) 46 525 := by
  refine ctM_of (own := RX3) rfl (by decide +kernel) (Nat.le_of_ble_eq_true rfl) (fun A => ?_)
  have loop : ∀ (qa z i : Nat) (f : Nat → Nat × Nat × Nat), i + z = 15 → GoC E A (kRm 2 46 525) (1 + 3 * i) (15 + 34 * i) RX3 cX3_init 2 none (kJ yX3_init) (kE E A (fun w => ∃ qa f, w = w_X3 E h qa f) 46 525) ((h, .inr (3, [.ref qa, .int 0, .int 0])) :: (qa, .inl (zC E 3, 15, .inr (.inr (.inr (.inr (refsW f i)))))) :: landsW E f i) 15 [(0, .ref h), (1, .int (nI i))] [] := by
    intro qa z
    induction z with
    | zero =>
      intro i f hi
      have hi : i = 15 := hi
      subst hi
      refine gc_iload_n (i := 1) (pc := 15) dX3_init_15 rfl rfl ?_
      refine gc_bipush (nI 15) (pc := 16) dX3_init_16 (by decide) ?_
      refine gc_icmp_ge 40 (pc := 18) dX3_init_18 (by decide) (fun h1 => ?_) (fun h1 => absurd (by decide) h1)
      exact gc_return dX3_init_40 rfl (by decide) (by decide) ⟨qa, f, rfl⟩
    | succ z ih =>
      intro i f hi
      refine gc_iload_n (i := 1) (pc := 15) dX3_init_15 rfl rfl ?_
      refine gc_bipush (nI 15) (pc := 16) dX3_init_16 (by decide) ?_
      refine gc_icmp_ge 40 (pc := 18) dX3_init_18 (by decide) (fun h1 => absurd ((nI_leI (by decide) (by omega)).mp h1) (by omega)) (fun h1 => ?_)
      refine gc_aload_n (i := 0) (pc := 21) dX3_init_21 rfl rfl ?_
      refine gc_get fl_X3_11 (pc := 22) dX3_init_22 rfl ?_
      refine gc_iload_n (i := 1) (pc := 25) dX3_init_25 rfl rfl ?_
      refine gc_new kn_X3_9 (by show 1 + 3 * i + 1 ≤ 46; omega) (by show 15 + 34 * i + 10 ≤ 525; omega) (pc := 26) dX3_init_26 (fun q => ?_)
      refine gc_dup (pc := 29) dX3_init_29 rfl ?_
      refine gc_callIN (fun s h1 h2 => h2 _ (h1 _ (Nat.le_refl _))) (List.mem_of_getElem? (i := 6) rfl) mt_X2_init zim_Land rfl (pc := 30) dX3_init_30 k_X2 (by decide) ⟨by show 1 + 3 * i + 1 + 2 ≤ 46; omega, by show 15 + 34 * i + 10 + 24 ≤ 525; omega⟩ (by decide) rfl rfl (Nat.le_of_ble_eq_true rfl) (fun w1 hw1 => ?_)
      obtain ⟨a1, a2, rfl⟩ := hw1
      obtain ⟨vs, hvs⟩ := landsW_at (E := E) (f := f) (i := i) (q := q) (a1 := a1) (a2 := a2)
      refine gc_aast (k := 1) (qk := (landsW E f i).length + 2) (f := refsW f i) (vs := vs) i rfl hvs rfl (by omega) (by decide) (pc := 33) dX3_init_33 ?_
      refine gc_world (w2 := (h, .inr (3, [.ref qa, .int 0, .int 0])) :: (qa, .inl (zC E 3, 15, .inr (.inr (.inr (.inr (refsW (fset f i (q, a1, a2)) (i + 1))))))) :: landsW E (fset f i (q, a1, a2)) (i + 1)) ?_ ?_
      · show (h, .inr (3, [.ref qa, .int 0, .int 0])) :: (qa, .inl (zC E 3, 15, .inr (.inr (.inr (.inr (va_up (refsW f i) i (some q))))))) :: (landsW E f i ++ w_X2 E q a1 a2) = _
        rw [← refsW_s (t := (q, a1, a2)), ← landsW_s (t := (q, a1, a2))]
      refine gc_iincN (pc := 34) dX3_init_34 rfl (by decide) ?_
      refine gc_goto 15 (pc := 37) dX3_init_37 (by decide) ?_
      refine gc_widen (k := 1 + 3 * (i + 1)) (n := 15 + 34 * (i + 1)) (by omega) (by omega) ?_
      exact ih (i + 1) _ (by omega)
  refine gc_aload_n (i := 0) (pc := 0) dX3_init_0 rfl rfl ?_
  refine gc_obj ml_X3_1 zi_obj zc_obj (pc := 1) dX3_init_1 (by decide) (Nat.le_of_ble_eq_true rfl) ?_
  refine gc_aload_n (i := 0) (pc := 4) dX3_init_4 rfl rfl ?_
  refine gc_bipush (nI 15) (pc := 5) dX3_init_5 (by decide) ?_
  refine gc_newq 15 zkl_X3 rfl (by decide) (Nat.le_of_ble_eq_true rfl) (Nat.le_of_ble_eq_true rfl) (pc := 7) dX3_init_7 (fun qa => ?_)
  rw [List.cons_append]
  refine gc_putF (fun _ _ _ _ _ h => h) fk_X3_11 (pc := 10) dX3_init_10 rfl rfl (Nat.le_of_ble_eq_true rfl) ?_
  refine gc_iconst (nI 0) (pc := 13) dX3_init_13 (by decide) ?_
  refine gc_istore_n (i := 1) (pc := 14) dX3_init_14 rfl (by decide) ?_
  refine gc_world (w2 := (h, .inr (3, [.ref qa, .int 0, .int 0])) :: (qa, .inl (zC E 3, 15, .inr (.inr (.inr (.inr (refsW (fun _ => (0, 0, 0)) 0)))))) :: landsW E (fun _ => (0, 0, 0)) 0) ?_ ?_
  · show ((h, .inr (3, [.ref qa, .int 0, .int 0])) :: [(qa, .inl (zC E 3, 15, .inr (.inr (.inr (.inr (fun _ => none))))))] : va_W) = _
    rw [show refsW (fun _ => (0, 0, 0)) 0 = (fun _ => none) from funext (fun j => if_neg (Nat.not_lt_zero j))]
    rfl
  exact loop qa 15 0 _ rfl

def w_X6 (E : zE) (h qa : Nat) (f : Nat → Nat × Nat × Nat) : va_W := (h, .inr (6, [.ref qa, .int 0])) :: (qa, .inl (zC E 3, 3, .inr (.inr (.inr (.inr (refsW f 3)))))) :: landsW E f 3
theorem w_X6_c {E : zE} {h qa : Nat} {f g : Nat → Nat × Nat × Nat} (hh : ∀ j, j < 3 → f j = g j) : w_X6 E h qa f = w_X6 E h qa g := by
  unfold w_X6
  rw [refsW_c hh, landsW_c 3 hh]
theorem fk_X6_11 : kFP RX6 11 6 0 (.array (.object "ThornHedge$Land")) := ⟨RX6, TX6, 2, rfl, by decide, zg1 185 rfl rfl, rfl, rfl, by decide +kernel⟩
theorem kn_X6_9 : kNew RX6 9 2 10 [.null, .null, .int 0, .int 0, .int 0, .int 0, .int 0, .int 0, .int 0, .int 0] := ⟨RX2, TX2, tyX2, rfl, zg1 183 rfl rfl, zg1 122 rfl rfl, zg1 7 rfl rfl, tyX2_ok, fun j hj => by
  rcases (show j = 0 ∨ j = 1 ∨ j = 2 ∨ j = 3 ∨ j = 4 ∨ j = 5 ∨ j = 6 ∨ j = 7 ∨ j = 8 ∨ j = 9 by omega) with rfl | rfl | rfl | rfl | rfl | rfl | rfl | rfl | rfl | rfl <;> rfl⟩
theorem zkl_X6 : Cond.classLink RX6 9 RX2 ∈ zG := zg1 183 rfl rfl
theorem k_X6 {E : zE} {h : Nat} : CtM E 2 yX6_init cX6_init 2 [(h, .inr (6, [.null, .int 0]))] [.ref h] (fun w => ∃ qa f, w = w_X6 E h qa f) 10 105 := by
  refine ctM_of (own := RX6) rfl (by decide +kernel) (Nat.le_of_ble_eq_true rfl) (fun A => ?_)
  have loop : ∀ (qa z i : Nat) (f : Nat → Nat × Nat × Nat), i + z = 3 → GoC E A (kRm 2 10 105) (1 + 3 * i) (3 + 34 * i) RX6 cX6_init 2 none (kJ yX6_init) (kE E A (fun w => ∃ qa f, w = w_X6 E h qa f) 10 105) ((h, .inr (6, [.ref qa, .int 0])) :: (qa, .inl (zC E 3, 3, .inr (.inr (.inr (.inr (refsW f i)))))) :: landsW E f i) 14 [(0, .ref h), (1, .int (nI i))] [] := by
    intro qa z
    induction z with
    | zero =>
      intro i f hi
      have hi : i = 3 := hi
      subst hi
      refine gc_iload_n (i := 1) (pc := 14) dX6_init_14 rfl rfl ?_
      refine gc_iconst (nI 3) (pc := 15) dX6_init_15 (by decide) ?_
      refine gc_icmp_ge 38 (pc := 16) dX6_init_16 (by decide) (fun h1 => ?_) (fun h1 => absurd (by decide) h1)
      exact gc_return dX6_init_38 rfl (by decide) (by decide) ⟨qa, f, rfl⟩
    | succ z ih =>
      intro i f hi
      refine gc_iload_n (i := 1) (pc := 14) dX6_init_14 rfl rfl ?_
      refine gc_iconst (nI 3) (pc := 15) dX6_init_15 (by decide) ?_
      refine gc_icmp_ge 38 (pc := 16) dX6_init_16 (by decide) (fun h1 => absurd ((nI_leI (by decide) (by omega)).mp h1) (by omega)) (fun h1 => ?_)
      refine gc_aload_n (i := 0) (pc := 19) dX6_init_19 rfl rfl ?_
      refine gc_get fl_X6_11 (pc := 20) dX6_init_20 rfl ?_
      refine gc_iload_n (i := 1) (pc := 23) dX6_init_23 rfl rfl ?_
      refine gc_new kn_X6_9 (by show 1 + 3 * i + 1 ≤ 10; omega) (by show 3 + 34 * i + 10 ≤ 105; omega) (pc := 24) dX6_init_24 (fun q => ?_)
      refine gc_dup (pc := 27) dX6_init_27 rfl ?_
      refine gc_callIN (fun s h1 h2 => h2 _ (h1 _ (Nat.le_refl _))) (List.mem_of_getElem? (i := 7) rfl) mt_X2_init zim_Land rfl (pc := 28) dX6_init_28 k_X2 (by decide) ⟨by show 1 + 3 * i + 1 + 2 ≤ 10; omega, by show 3 + 34 * i + 10 + 24 ≤ 105; omega⟩ (by decide) rfl rfl (Nat.le_of_ble_eq_true rfl) (fun w1 hw1 => ?_)
      obtain ⟨a1, a2, rfl⟩ := hw1
      obtain ⟨vs, hvs⟩ := landsW_at (E := E) (f := f) (i := i) (q := q) (a1 := a1) (a2 := a2)
      refine gc_aast (k := 1) (qk := (landsW E f i).length + 2) (f := refsW f i) (vs := vs) i rfl hvs rfl (by omega) (by decide) (pc := 31) dX6_init_31 ?_
      refine gc_world (w2 := (h, .inr (6, [.ref qa, .int 0])) :: (qa, .inl (zC E 3, 3, .inr (.inr (.inr (.inr (refsW (fset f i (q, a1, a2)) (i + 1))))))) :: landsW E (fset f i (q, a1, a2)) (i + 1)) ?_ ?_
      · show (h, .inr (6, [.ref qa, .int 0])) :: (qa, .inl (zC E 3, 3, .inr (.inr (.inr (.inr (va_up (refsW f i) i (some q))))))) :: (landsW E f i ++ w_X2 E q a1 a2) = _
        rw [← refsW_s (t := (q, a1, a2)), ← landsW_s (t := (q, a1, a2))]
      refine gc_iincN (pc := 32) dX6_init_32 rfl (by decide) ?_
      refine gc_goto 14 (pc := 35) dX6_init_35 (by decide) ?_
      refine gc_widen (k := 1 + 3 * (i + 1)) (n := 3 + 34 * (i + 1)) (by omega) (by omega) ?_
      exact ih (i + 1) _ (by omega)
  refine gc_aload_n (i := 0) (pc := 0) dX6_init_0 rfl rfl ?_
  refine gc_obj ml_X6_1 zi_obj zc_obj (pc := 1) dX6_init_1 (by decide) (Nat.le_of_ble_eq_true rfl) ?_
  refine gc_aload_n (i := 0) (pc := 4) dX6_init_4 rfl rfl ?_
  refine gc_iconst (nI 3) (pc := 5) dX6_init_5 (by decide) ?_
  refine gc_newq 3 zkl_X6 rfl (by decide) (Nat.le_of_ble_eq_true rfl) (Nat.le_of_ble_eq_true rfl) (pc := 6) dX6_init_6 (fun qa => ?_)
  rw [List.cons_append]
  refine gc_putF (fun _ _ _ _ _ h => h) fk_X6_11 (pc := 9) dX6_init_9 rfl rfl (Nat.le_of_ble_eq_true rfl) ?_
  refine gc_iconst (nI 0) (pc := 12) dX6_init_12 (by decide) ?_
  refine gc_istore_n (i := 1) (pc := 13) dX6_init_13 rfl (by decide) ?_
  refine gc_world (w2 := (h, .inr (6, [.ref qa, .int 0])) :: (qa, .inl (zC E 3, 3, .inr (.inr (.inr (.inr (refsW (fun _ => (0, 0, 0)) 0)))))) :: landsW E (fun _ => (0, 0, 0)) 0) ?_ ?_
  · show ((h, .inr (6, [.ref qa, .int 0])) :: [(qa, .inl (zC E 3, 3, .inr (.inr (.inr (.inr (fun _ => none))))))] : va_W) = _
    rw [show refsW (fun _ => (0, 0, 0)) 0 = (fun _ => none) from funext (fun j => if_neg (Nat.not_lt_zero j))]
    rfl
  exact loop qa 3 0 _ rfl

def now0 : Nat → Int32 := upd (upd (upd (upd (upd (upd (upd (upd (upd (upd (upd (upd (upd (upd (upd (upd (upd (upd (upd (upd (upd (upd (upd (upd (upd (upd (upd (upd (upd (fun _ => 0) 0 (nI 0)) 1 (nI 0)) 2 (nI 0)) 3 (nI 0)) 4 (nI 0)) 5 (nI 0)) 6 (nI 0)) 7 (nI 0)) 8 (nI 0)) 9 (nI 0)) 10 (nI 0)) 11 (nI 0)) 12 (nI 0)) 13 (nI 0)) 14 (nI 0)) 15 (nI 0)) 16 (nI 0)) 17 (nI 0)) 18 (nI 0)) 19 (nI 0)) 20 (nI 0)) 21 (nI 0)) 22 (nI 0)) 23 (nI 0)) 24 (nI 0)) 25 (nI 5)) 26 (nI 20)) 27 (nI 0)) 28 (nI 0)
theorem fk_X12_9 : kFP RX12 9 12 2 (.array .long) := ⟨RX12, TX12, 46, rfl, by decide, zg5 150 rfl rfl, rfl, rfl, by decide +kernel⟩
theorem fk_X12_20 : kFP RX12 20 12 7 (.array .int) := ⟨RX12, TX12, 46, rfl, by decide, zg5 155 rfl rfl, rfl, rfl, by decide +kernel⟩
theorem fk_X12_24 : kFP RX12 24 12 8 (.array .int) := ⟨RX12, TX12, 46, rfl, by decide, zg5 156 rfl rfl, rfl, rfl, by decide +kernel⟩
theorem fk_X12_27 : kFP RX12 27 12 9 (.array .int) := ⟨RX12, TX12, 46, rfl, by decide, zg5 157 rfl rfl, rfl, rfl, by decide +kernel⟩
theorem fk_X12_30 : kFP RX12 30 12 10 (.array .int) := ⟨RX12, TX12, 46, rfl, by decide, zg5 158 rfl rfl, rfl, rfl, by decide +kernel⟩
theorem fk_X12_33 : kFP RX12 33 12 11 (.array .int) := ⟨RX12, TX12, 46, rfl, by decide, zg5 159 rfl rfl, rfl, rfl, by decide +kernel⟩
theorem fk_X12_36 : kFP RX12 36 12 12 (.array .int) := ⟨RX12, TX12, 46, rfl, by decide, zg5 160 rfl rfl, rfl, rfl, by decide +kernel⟩
theorem fk_X12_39 : kFP RX12 39 12 13 (.array .int) := ⟨RX12, TX12, 46, rfl, by decide, zg5 161 rfl rfl, rfl, rfl, by decide +kernel⟩
theorem fk_X12_42 : kFP RX12 42 12 14 (.array .int) := ⟨RX12, TX12, 46, rfl, by decide, zg5 162 rfl rfl, rfl, rfl, by decide +kernel⟩
theorem fk_X12_45 : kFP RX12 45 12 19 (.array .int) := ⟨RX12, TX12, 46, rfl, by decide, zg5 167 rfl rfl, rfl, rfl, by decide +kernel⟩
theorem fk_X12_48 : kFP RX12 48 12 21 (.array .int) := ⟨RX12, TX12, 46, rfl, by decide, zg5 169 rfl rfl, rfl, rfl, by decide +kernel⟩
theorem fk_X12_51 : kFP RX12 51 12 22 (.array .int) := ⟨RX12, TX12, 46, rfl, by decide, zg5 170 rfl rfl, rfl, rfl, by decide +kernel⟩
theorem fk_X12_54 : kFP RX12 54 12 25 (.array .int) := ⟨RX12, TX12, 46, rfl, by decide, zg5 173 rfl rfl, rfl, rfl, by decide +kernel⟩
theorem fk_X12_57 : kFP RX12 57 12 26 (.array .int) := ⟨RX12, TX12, 46, rfl, by decide, zg5 174 rfl rfl, rfl, rfl, by decide +kernel⟩
theorem fk_X12_60 : kFP RX12 60 12 30 (.array .int) := ⟨RX12, TX12, 46, rfl, by decide, zg5 178 rfl rfl, rfl, rfl, by decide +kernel⟩
theorem fk_X12_63 : kFP RX12 63 12 31 (.array .int) := ⟨RX12, TX12, 46, rfl, by decide, zg5 179 rfl rfl, rfl, rfl, by decide +kernel⟩
theorem fk_X12_66 : kFP RX12 66 12 32 (.array .int) := ⟨RX12, TX12, 46, rfl, by decide, zg5 180 rfl rfl, rfl, rfl, by decide +kernel⟩
theorem fk_X12_69 : kFP RX12 69 12 33 (.array .int) := ⟨RX12, TX12, 46, rfl, by decide, zg5 181 rfl rfl, rfl, rfl, by decide +kernel⟩
theorem fk_X12_72 : kFP RX12 72 12 34 (.array .int) := ⟨RX12, TX12, 46, rfl, by decide, zg5 182 rfl rfl, rfl, rfl, by decide +kernel⟩
theorem fk_X12_75 : kFP RX12 75 12 36 (.array .int) := ⟨RX12, TX12, 46, rfl, by decide, zg5 184 rfl rfl, rfl, rfl, by decide +kernel⟩
theorem fk_X12_78 : kFP RX12 78 12 37 (.array .int) := ⟨RX12, TX12, 46, rfl, by decide, zg5 185 rfl rfl, rfl, rfl, by decide +kernel⟩
theorem fk_X12_81 : kFP RX12 81 12 40 (.array .int) := ⟨RX12, TX12, 46, rfl, by decide, zg5 188 rfl rfl, rfl, rfl, by decide +kernel⟩
theorem fk_X12_84 : kFP RX12 84 12 41 (.array .int) := ⟨RX12, TX12, 46, rfl, by decide, zg5 189 rfl rfl, rfl, rfl, by decide +kernel⟩
theorem fk_X12_87 : kFP RX12 87 12 42 (.array .int) := ⟨RX12, TX12, 46, rfl, by decide, zg5 190 rfl rfl, rfl, rfl, by decide +kernel⟩
theorem fk_X12_90 : kFP RX12 90 12 44 (.array .boolean) := ⟨RX12, TX12, 46, rfl, by decide, zg5 192 rfl rfl, rfl, rfl, by decide +kernel⟩
theorem fk_X12_94 : kFP RX12 94 12 45 (.array .int) := ⟨RX12, TX12, 46, rfl, by decide, zg5 193 rfl rfl, rfl, rfl, by decide +kernel⟩
def w_X12 (E : zE) (h a1 a2 a3 a4 a5 a6 a7 a8 a9 a10 a11 a12 a13 a14 a15 a16 a17 a18 a19 a20 a21 a22 a23 a24 a25 a26 : Nat) : va_W := [(h, .inr (12, [.int 0, .int 0, .ref a1, .int (nI 1), .int 0, .int 0, .int (nI 1), .ref a2, .ref a3, .ref a4, .ref a5, .ref a6, .ref a7, .ref a8, .ref a9, .int 0, .int 0, .int 0, .int 0, .ref a10, .int 0, .ref a11, .ref a12, .int 0, .int 0, .ref a13, .ref a14, .int 0, .int 0, .int 0, .ref a15, .ref a16, .ref a17, .ref a18, .ref a19, .int 0, .ref a20, .ref a21, .int 0, .int 0, .ref a22, .ref a23, .ref a24, .int 0, .ref a25, .ref a26])), (a1, .inl (zC E 1, 24, .inr (.inl (fun _ => 0)))), (a2, .inl (zC E 0, 20, .inl (fun _ => 0))), (a3, .inl (zC E 0, 8, .inl (fun _ => 0))), (a4, .inl (zC E 0, 8, .inl (fun _ => 0))), (a5, .inl (zC E 0, 8, .inl (fun _ => 0))), (a6, .inl (zC E 0, 8, .inl (fun _ => 0))), (a7, .inl (zC E 0, 29, .inl (now0))), (a8, .inl (zC E 0, 29, .inl (fun _ => 0))), (a9, .inl (zC E 0, 80, .inl (fun _ => 0))), (a10, .inl (zC E 0, 20, .inl (fun _ => 0))), (a11, .inl (zC E 0, 80, .inl (fun _ => 0))), (a12, .inl (zC E 0, 80, .inl (fun _ => 0))), (a13, .inl (zC E 0, 80, .inl (fun _ => 0))), (a14, .inl (zC E 0, 5, .inl (fun _ => 0))), (a15, .inl (zC E 0, 464, .inl (fun _ => 0))), (a16, .inl (zC E 0, 12, .inl (fun _ => 0))), (a17, .inl (zC E 0, 60, .inl (fun _ => 0))), (a18, .inl (zC E 0, 60, .inl (fun _ => 0))), (a19, .inl (zC E 0, 60, .inl (fun _ => 0))), (a20, .inl (zC E 0, 12, .inl (fun _ => 0))), (a21, .inl (zC E 0, 12, .inl (fun _ => 0))), (a22, .inl (zC E 0, 12, .inl (fun _ => 0))), (a23, .inl (zC E 0, 12, .inl (fun _ => 0))), (a24, .inl (zC E 0, 80, .inl (fun _ => 0))), (a25, .inl (zC E 2, 3, .inl (fun _ => 0))), (a26, .inl (zC E 0, 87, .inl (fun _ => 0)))]
set_option maxHeartbeats 16000000 in
theorem k_X12 {E : zE} {h : Nat} : CtM E 1 yX12_init cX12_init 1 [(h, .inr (12, [.int 0, .int 0, .null, .int 0, .int 0, .int 0, .int 0, .null, .null, .null, .null, .null, .null, .null, .null, .int 0, .int 0, .int 0, .int 0, .null, .int 0, .null, .null, .int 0, .int 0, .null, .null, .int 0, .int 0, .int 0, .null, .null, .null, .null, .null, .int 0, .null, .null, .int 0, .int 0, .null, .null, .null, .int 0, .null, .null]))] [.ref h] (fun w => ∃ a1 a2 a3 a4 a5 a6 a7 a8 a9 a10 a11 a12 a13 a14 a15 a16 a17 a18 a19 a20 a21 a22 a23 a24 a25 a26, w = w_X12 E h a1 a2 a3 a4 a5 a6 a7 a8 a9 a10 a11 a12 a13 a14 a15 a16 a17 a18 a19 a20 a21 a22 a23 a24 a25 a26) 26 1353 := by
  refine ctM_of (own := RX12) rfl (by decide +kernel) (Nat.le_of_ble_eq_true rfl) (fun A => ?_)
  refine gc_aload_n (i := 0) (pc := 0) dX12_init_0 rfl rfl ?_
  refine gc_obj ml_X12_3 zi_obj zc_obj (pc := 1) dX12_init_1 (by decide) (Nat.le_of_ble_eq_true rfl) ?_
  refine gc_aload_n (i := 0) (pc := 4) dX12_init_4 rfl rfl ?_
  refine gc_bipush (nI 24) (pc := 5) dX12_init_5 (by decide) ?_
  refine gc_newa (atype := .long) (ty := .long) (a0 := (24, .inr (.inl (fun _ => 0)))) 24 1 za_long rfl (fun _ => rfl) (fun _ h => by cases h) (kc_long 24) rfl (by decide) (by decide) (Nat.le_of_ble_eq_true rfl) (Nat.le_of_ble_eq_true rfl) (pc := 7) dX12_init_7 (fun a1 => ?_)
  simp only [List.nil_append, List.cons_append]
  refine gc_putF (fun _ _ _ _ _ h => h) fk_X12_9 (pc := 9) dX12_init_9 rfl rfl (Nat.le_of_ble_eq_true rfl) ?_
  refine gc_world (w2 := (h, .inr (12, [.int 0, .int 0, .ref a1, .int 0, .int 0, .int 0, .int 0, .null, .null, .null, .null, .null, .null, .null, .null, .int 0, .int 0, .int 0, .int 0, .null, .int 0, .null, .null, .int 0, .int 0, .null, .null, .int 0, .int 0, .int 0, .null, .null, .null, .null, .null, .int 0, .null, .null, .int 0, .int 0, .null, .null, .null, .int 0, .null, .null])) :: _) rfl ?_
  refine gc_aload_n (i := 0) (pc := 12) dX12_init_12 rfl rfl ?_
  refine gc_iconst (nI 1) (pc := 13) dX12_init_13 (by decide) ?_
  refine gc_put fp_X12_13 (pc := 14) dX12_init_14 rfl rfl (Nat.le_of_ble_eq_true rfl) ?_
  refine gc_world (w2 := (h, .inr (12, [.int 0, .int 0, .ref a1, .int (nI 1), .int 0, .int 0, .int 0, .null, .null, .null, .null, .null, .null, .null, .null, .int 0, .int 0, .int 0, .int 0, .null, .int 0, .null, .null, .int 0, .int 0, .null, .null, .int 0, .int 0, .int 0, .null, .null, .null, .null, .null, .int 0, .null, .null, .int 0, .int 0, .null, .null, .null, .int 0, .null, .null])) :: _) rfl ?_
  refine gc_aload_n (i := 0) (pc := 17) dX12_init_17 rfl rfl ?_
  refine gc_iconst (nI 1) (pc := 18) dX12_init_18 (by decide) ?_
  refine gc_put fp_X12_17 (pc := 19) dX12_init_19 rfl rfl (Nat.le_of_ble_eq_true rfl) ?_
  refine gc_world (w2 := (h, .inr (12, [.int 0, .int 0, .ref a1, .int (nI 1), .int 0, .int 0, .int (nI 1), .null, .null, .null, .null, .null, .null, .null, .null, .int 0, .int 0, .int 0, .int 0, .null, .int 0, .null, .null, .int 0, .int 0, .null, .null, .int 0, .int 0, .int 0, .null, .null, .null, .null, .null, .int 0, .null, .null, .int 0, .int 0, .null, .null, .null, .int 0, .null, .null])) :: _) rfl ?_
  refine gc_aload_n (i := 0) (pc := 22) dX12_init_22 rfl rfl ?_
  refine gc_bipush (nI 20) (pc := 23) dX12_init_23 (by decide) ?_
  refine gc_newa (atype := .int) (ty := .int) (a0 := (20, .inl (fun _ => 0))) 20 0 za_int rfl (fun _ => rfl) (fun _ h => by cases h) (kc_int 20) rfl (by decide) (by decide) (Nat.le_of_ble_eq_true rfl) (Nat.le_of_ble_eq_true rfl) (pc := 25) dX12_init_25 (fun a2 => ?_)
  simp only [List.nil_append, List.cons_append]
  refine gc_putF (fun _ _ _ _ _ h => h) fk_X12_20 (pc := 27) dX12_init_27 rfl rfl (Nat.le_of_ble_eq_true rfl) ?_
  refine gc_world (w2 := (h, .inr (12, [.int 0, .int 0, .ref a1, .int (nI 1), .int 0, .int 0, .int (nI 1), .ref a2, .null, .null, .null, .null, .null, .null, .null, .int 0, .int 0, .int 0, .int 0, .null, .int 0, .null, .null, .int 0, .int 0, .null, .null, .int 0, .int 0, .int 0, .null, .null, .null, .null, .null, .int 0, .null, .null, .int 0, .int 0, .null, .null, .null, .int 0, .null, .null])) :: _) rfl ?_
  refine gc_aload_n (i := 0) (pc := 30) dX12_init_30 rfl rfl ?_
  refine gc_bipush (nI 8) (pc := 31) dX12_init_31 (by decide) ?_
  refine gc_newa (atype := .int) (ty := .int) (a0 := (8, .inl (fun _ => 0))) 8 0 za_int rfl (fun _ => rfl) (fun _ h => by cases h) (kc_int 8) rfl (by decide) (by decide) (Nat.le_of_ble_eq_true rfl) (Nat.le_of_ble_eq_true rfl) (pc := 33) dX12_init_33 (fun a3 => ?_)
  simp only [List.nil_append, List.cons_append]
  refine gc_putF (fun _ _ _ _ _ h => h) fk_X12_24 (pc := 35) dX12_init_35 rfl rfl (Nat.le_of_ble_eq_true rfl) ?_
  refine gc_world (w2 := (h, .inr (12, [.int 0, .int 0, .ref a1, .int (nI 1), .int 0, .int 0, .int (nI 1), .ref a2, .ref a3, .null, .null, .null, .null, .null, .null, .int 0, .int 0, .int 0, .int 0, .null, .int 0, .null, .null, .int 0, .int 0, .null, .null, .int 0, .int 0, .int 0, .null, .null, .null, .null, .null, .int 0, .null, .null, .int 0, .int 0, .null, .null, .null, .int 0, .null, .null])) :: _) rfl ?_
  refine gc_aload_n (i := 0) (pc := 38) dX12_init_38 rfl rfl ?_
  refine gc_bipush (nI 8) (pc := 39) dX12_init_39 (by decide) ?_
  refine gc_newa (atype := .int) (ty := .int) (a0 := (8, .inl (fun _ => 0))) 8 0 za_int rfl (fun _ => rfl) (fun _ h => by cases h) (kc_int 8) rfl (by decide) (by decide) (Nat.le_of_ble_eq_true rfl) (Nat.le_of_ble_eq_true rfl) (pc := 41) dX12_init_41 (fun a4 => ?_)
  simp only [List.nil_append, List.cons_append]
  refine gc_putF (fun _ _ _ _ _ h => h) fk_X12_27 (pc := 43) dX12_init_43 rfl rfl (Nat.le_of_ble_eq_true rfl) ?_
  refine gc_world (w2 := (h, .inr (12, [.int 0, .int 0, .ref a1, .int (nI 1), .int 0, .int 0, .int (nI 1), .ref a2, .ref a3, .ref a4, .null, .null, .null, .null, .null, .int 0, .int 0, .int 0, .int 0, .null, .int 0, .null, .null, .int 0, .int 0, .null, .null, .int 0, .int 0, .int 0, .null, .null, .null, .null, .null, .int 0, .null, .null, .int 0, .int 0, .null, .null, .null, .int 0, .null, .null])) :: _) rfl ?_
  refine gc_aload_n (i := 0) (pc := 46) dX12_init_46 rfl rfl ?_
  refine gc_bipush (nI 8) (pc := 47) dX12_init_47 (by decide) ?_
  refine gc_newa (atype := .int) (ty := .int) (a0 := (8, .inl (fun _ => 0))) 8 0 za_int rfl (fun _ => rfl) (fun _ h => by cases h) (kc_int 8) rfl (by decide) (by decide) (Nat.le_of_ble_eq_true rfl) (Nat.le_of_ble_eq_true rfl) (pc := 49) dX12_init_49 (fun a5 => ?_)
  simp only [List.nil_append, List.cons_append]
  refine gc_putF (fun _ _ _ _ _ h => h) fk_X12_30 (pc := 51) dX12_init_51 rfl rfl (Nat.le_of_ble_eq_true rfl) ?_
  refine gc_world (w2 := (h, .inr (12, [.int 0, .int 0, .ref a1, .int (nI 1), .int 0, .int 0, .int (nI 1), .ref a2, .ref a3, .ref a4, .ref a5, .null, .null, .null, .null, .int 0, .int 0, .int 0, .int 0, .null, .int 0, .null, .null, .int 0, .int 0, .null, .null, .int 0, .int 0, .int 0, .null, .null, .null, .null, .null, .int 0, .null, .null, .int 0, .int 0, .null, .null, .null, .int 0, .null, .null])) :: _) rfl ?_
  refine gc_aload_n (i := 0) (pc := 54) dX12_init_54 rfl rfl ?_
  refine gc_bipush (nI 8) (pc := 55) dX12_init_55 (by decide) ?_
  refine gc_newa (atype := .int) (ty := .int) (a0 := (8, .inl (fun _ => 0))) 8 0 za_int rfl (fun _ => rfl) (fun _ h => by cases h) (kc_int 8) rfl (by decide) (by decide) (Nat.le_of_ble_eq_true rfl) (Nat.le_of_ble_eq_true rfl) (pc := 57) dX12_init_57 (fun a6 => ?_)
  simp only [List.nil_append, List.cons_append]
  refine gc_putF (fun _ _ _ _ _ h => h) fk_X12_33 (pc := 59) dX12_init_59 rfl rfl (Nat.le_of_ble_eq_true rfl) ?_
  refine gc_world (w2 := (h, .inr (12, [.int 0, .int 0, .ref a1, .int (nI 1), .int 0, .int 0, .int (nI 1), .ref a2, .ref a3, .ref a4, .ref a5, .ref a6, .null, .null, .null, .int 0, .int 0, .int 0, .int 0, .null, .int 0, .null, .null, .int 0, .int 0, .null, .null, .int 0, .int 0, .int 0, .null, .null, .null, .null, .null, .int 0, .null, .null, .int 0, .int 0, .null, .null, .null, .int 0, .null, .null])) :: _) rfl ?_
  refine gc_aload_n (i := 0) (pc := 62) dX12_init_62 rfl rfl ?_
  refine gc_bipush (nI 29) (pc := 63) dX12_init_63 (by decide) ?_
  refine gc_newa (atype := .int) (ty := .int) (a0 := (29, .inl (fun _ => 0))) 29 0 za_int rfl (fun _ => rfl) (fun _ h => by cases h) (kc_int 29) rfl (by decide) (by decide) (Nat.le_of_ble_eq_true rfl) (Nat.le_of_ble_eq_true rfl) (pc := 65) dX12_init_65 (fun a7 => ?_)
  refine gc_dup (pc := 67) dX12_init_67 rfl ?_
  refine gc_iconst (nI 0) (pc := 68) dX12_init_68 (by decide) ?_
  refine gc_iconst (nI 0) (pc := 69) dX12_init_69 (by decide) ?_
  refine gc_iastL 0 rfl (by decide) (by decide) (pc := 70) dX12_init_70 ?_
  refine gc_dup (pc := 71) dX12_init_71 rfl ?_
  refine gc_iconst (nI 1) (pc := 72) dX12_init_72 (by decide) ?_
  refine gc_iconst (nI 0) (pc := 73) dX12_init_73 (by decide) ?_
  refine gc_iastL 1 rfl (by decide) (by decide) (pc := 74) dX12_init_74 ?_
  refine gc_dup (pc := 75) dX12_init_75 rfl ?_
  refine gc_iconst (nI 2) (pc := 76) dX12_init_76 (by decide) ?_
  refine gc_iconst (nI 0) (pc := 77) dX12_init_77 (by decide) ?_
  refine gc_iastL 2 rfl (by decide) (by decide) (pc := 78) dX12_init_78 ?_
  refine gc_dup (pc := 79) dX12_init_79 rfl ?_
  refine gc_iconst (nI 3) (pc := 80) dX12_init_80 (by decide) ?_
  refine gc_iconst (nI 0) (pc := 81) dX12_init_81 (by decide) ?_
  refine gc_iastL 3 rfl (by decide) (by decide) (pc := 82) dX12_init_82 ?_
  refine gc_dup (pc := 83) dX12_init_83 rfl ?_
  refine gc_iconst (nI 4) (pc := 84) dX12_init_84 (by decide) ?_
  refine gc_iconst (nI 0) (pc := 85) dX12_init_85 (by decide) ?_
  refine gc_iastL 4 rfl (by decide) (by decide) (pc := 86) dX12_init_86 ?_
  refine gc_dup (pc := 87) dX12_init_87 rfl ?_
  refine gc_iconst (nI 5) (pc := 88) dX12_init_88 (by decide) ?_
  refine gc_iconst (nI 0) (pc := 89) dX12_init_89 (by decide) ?_
  refine gc_iastL 5 rfl (by decide) (by decide) (pc := 90) dX12_init_90 ?_
  refine gc_dup (pc := 91) dX12_init_91 rfl ?_
  refine gc_bipush (nI 6) (pc := 92) dX12_init_92 (by decide) ?_
  refine gc_iconst (nI 0) (pc := 94) dX12_init_94 (by decide) ?_
  refine gc_iastL 6 rfl (by decide) (by decide) (pc := 95) dX12_init_95 ?_
  refine gc_dup (pc := 96) dX12_init_96 rfl ?_
  refine gc_bipush (nI 7) (pc := 97) dX12_init_97 (by decide) ?_
  refine gc_iconst (nI 0) (pc := 99) dX12_init_99 (by decide) ?_
  refine gc_iastL 7 rfl (by decide) (by decide) (pc := 100) dX12_init_100 ?_
  refine gc_dup (pc := 101) dX12_init_101 rfl ?_
  refine gc_bipush (nI 8) (pc := 102) dX12_init_102 (by decide) ?_
  refine gc_iconst (nI 0) (pc := 104) dX12_init_104 (by decide) ?_
  refine gc_iastL 8 rfl (by decide) (by decide) (pc := 105) dX12_init_105 ?_
  refine gc_dup (pc := 106) dX12_init_106 rfl ?_
  refine gc_bipush (nI 9) (pc := 107) dX12_init_107 (by decide) ?_
  refine gc_iconst (nI 0) (pc := 109) dX12_init_109 (by decide) ?_
  refine gc_iastL 9 rfl (by decide) (by decide) (pc := 110) dX12_init_110 ?_
  refine gc_dup (pc := 111) dX12_init_111 rfl ?_
  refine gc_bipush (nI 10) (pc := 112) dX12_init_112 (by decide) ?_
  refine gc_iconst (nI 0) (pc := 114) dX12_init_114 (by decide) ?_
  refine gc_iastL 10 rfl (by decide) (by decide) (pc := 115) dX12_init_115 ?_
  refine gc_dup (pc := 116) dX12_init_116 rfl ?_
  refine gc_bipush (nI 11) (pc := 117) dX12_init_117 (by decide) ?_
  refine gc_iconst (nI 0) (pc := 119) dX12_init_119 (by decide) ?_
  refine gc_iastL 11 rfl (by decide) (by decide) (pc := 120) dX12_init_120 ?_
  refine gc_dup (pc := 121) dX12_init_121 rfl ?_
  refine gc_bipush (nI 12) (pc := 122) dX12_init_122 (by decide) ?_
  refine gc_iconst (nI 0) (pc := 124) dX12_init_124 (by decide) ?_
  refine gc_iastL 12 rfl (by decide) (by decide) (pc := 125) dX12_init_125 ?_
  refine gc_dup (pc := 126) dX12_init_126 rfl ?_
  refine gc_bipush (nI 13) (pc := 127) dX12_init_127 (by decide) ?_
  refine gc_iconst (nI 0) (pc := 129) dX12_init_129 (by decide) ?_
  refine gc_iastL 13 rfl (by decide) (by decide) (pc := 130) dX12_init_130 ?_
  refine gc_dup (pc := 131) dX12_init_131 rfl ?_
  refine gc_bipush (nI 14) (pc := 132) dX12_init_132 (by decide) ?_
  refine gc_iconst (nI 0) (pc := 134) dX12_init_134 (by decide) ?_
  refine gc_iastL 14 rfl (by decide) (by decide) (pc := 135) dX12_init_135 ?_
  refine gc_dup (pc := 136) dX12_init_136 rfl ?_
  refine gc_bipush (nI 15) (pc := 137) dX12_init_137 (by decide) ?_
  refine gc_iconst (nI 0) (pc := 139) dX12_init_139 (by decide) ?_
  refine gc_iastL 15 rfl (by decide) (by decide) (pc := 140) dX12_init_140 ?_
  refine gc_dup (pc := 141) dX12_init_141 rfl ?_
  refine gc_bipush (nI 16) (pc := 142) dX12_init_142 (by decide) ?_
  refine gc_iconst (nI 0) (pc := 144) dX12_init_144 (by decide) ?_
  refine gc_iastL 16 rfl (by decide) (by decide) (pc := 145) dX12_init_145 ?_
  refine gc_dup (pc := 146) dX12_init_146 rfl ?_
  refine gc_bipush (nI 17) (pc := 147) dX12_init_147 (by decide) ?_
  refine gc_iconst (nI 0) (pc := 149) dX12_init_149 (by decide) ?_
  refine gc_iastL 17 rfl (by decide) (by decide) (pc := 150) dX12_init_150 ?_
  refine gc_dup (pc := 151) dX12_init_151 rfl ?_
  refine gc_bipush (nI 18) (pc := 152) dX12_init_152 (by decide) ?_
  refine gc_iconst (nI 0) (pc := 154) dX12_init_154 (by decide) ?_
  refine gc_iastL 18 rfl (by decide) (by decide) (pc := 155) dX12_init_155 ?_
  refine gc_dup (pc := 156) dX12_init_156 rfl ?_
  refine gc_bipush (nI 19) (pc := 157) dX12_init_157 (by decide) ?_
  refine gc_iconst (nI 0) (pc := 159) dX12_init_159 (by decide) ?_
  refine gc_iastL 19 rfl (by decide) (by decide) (pc := 160) dX12_init_160 ?_
  refine gc_dup (pc := 161) dX12_init_161 rfl ?_
  refine gc_bipush (nI 20) (pc := 162) dX12_init_162 (by decide) ?_
  refine gc_iconst (nI 0) (pc := 164) dX12_init_164 (by decide) ?_
  refine gc_iastL 20 rfl (by decide) (by decide) (pc := 165) dX12_init_165 ?_
  refine gc_dup (pc := 166) dX12_init_166 rfl ?_
  refine gc_bipush (nI 21) (pc := 167) dX12_init_167 (by decide) ?_
  refine gc_iconst (nI 0) (pc := 169) dX12_init_169 (by decide) ?_
  refine gc_iastL 21 rfl (by decide) (by decide) (pc := 170) dX12_init_170 ?_
  refine gc_dup (pc := 171) dX12_init_171 rfl ?_
  refine gc_bipush (nI 22) (pc := 172) dX12_init_172 (by decide) ?_
  refine gc_iconst (nI 0) (pc := 174) dX12_init_174 (by decide) ?_
  refine gc_iastL 22 rfl (by decide) (by decide) (pc := 175) dX12_init_175 ?_
  refine gc_dup (pc := 176) dX12_init_176 rfl ?_
  refine gc_bipush (nI 23) (pc := 177) dX12_init_177 (by decide) ?_
  refine gc_iconst (nI 0) (pc := 179) dX12_init_179 (by decide) ?_
  refine gc_iastL 23 rfl (by decide) (by decide) (pc := 180) dX12_init_180 ?_
  refine gc_dup (pc := 181) dX12_init_181 rfl ?_
  refine gc_bipush (nI 24) (pc := 182) dX12_init_182 (by decide) ?_
  refine gc_iconst (nI 0) (pc := 184) dX12_init_184 (by decide) ?_
  refine gc_iastL 24 rfl (by decide) (by decide) (pc := 185) dX12_init_185 ?_
  refine gc_dup (pc := 186) dX12_init_186 rfl ?_
  refine gc_bipush (nI 25) (pc := 187) dX12_init_187 (by decide) ?_
  refine gc_iconst (nI 5) (pc := 189) dX12_init_189 (by decide) ?_
  refine gc_iastL 25 rfl (by decide) (by decide) (pc := 190) dX12_init_190 ?_
  refine gc_dup (pc := 191) dX12_init_191 rfl ?_
  refine gc_bipush (nI 26) (pc := 192) dX12_init_192 (by decide) ?_
  refine gc_bipush (nI 20) (pc := 194) dX12_init_194 (by decide) ?_
  refine gc_iastL 26 rfl (by decide) (by decide) (pc := 196) dX12_init_196 ?_
  refine gc_dup (pc := 197) dX12_init_197 rfl ?_
  refine gc_bipush (nI 27) (pc := 198) dX12_init_198 (by decide) ?_
  refine gc_iconst (nI 0) (pc := 200) dX12_init_200 (by decide) ?_
  refine gc_iastL 27 rfl (by decide) (by decide) (pc := 201) dX12_init_201 ?_
  refine gc_dup (pc := 202) dX12_init_202 rfl ?_
  refine gc_bipush (nI 28) (pc := 203) dX12_init_203 (by decide) ?_
  refine gc_iconst (nI 0) (pc := 205) dX12_init_205 (by decide) ?_
  refine gc_iastL 28 rfl (by decide) (by decide) (pc := 206) dX12_init_206 ?_
  rw [show upd (upd (upd (upd (upd (upd (upd (upd (upd (upd (upd (upd (upd (upd (upd (upd (upd (upd (upd (upd (upd (upd (upd (upd (upd (upd (upd (upd (upd (fun _ => 0) 0 (nI 0)) 1 (nI 0)) 2 (nI 0)) 3 (nI 0)) 4 (nI 0)) 5 (nI 0)) 6 (nI 0)) 7 (nI 0)) 8 (nI 0)) 9 (nI 0)) 10 (nI 0)) 11 (nI 0)) 12 (nI 0)) 13 (nI 0)) 14 (nI 0)) 15 (nI 0)) 16 (nI 0)) 17 (nI 0)) 18 (nI 0)) 19 (nI 0)) 20 (nI 0)) 21 (nI 0)) 22 (nI 0)) 23 (nI 0)) 24 (nI 0)) 25 (nI 5)) 26 (nI 20)) 27 (nI 0)) 28 (nI 0) = now0 from rfl]
  simp only [List.nil_append, List.cons_append]
  refine gc_putF (fun _ _ _ _ _ h => h) fk_X12_36 (pc := 207) dX12_init_207 rfl rfl (Nat.le_of_ble_eq_true rfl) ?_
  refine gc_world (w2 := (h, .inr (12, [.int 0, .int 0, .ref a1, .int (nI 1), .int 0, .int 0, .int (nI 1), .ref a2, .ref a3, .ref a4, .ref a5, .ref a6, .ref a7, .null, .null, .int 0, .int 0, .int 0, .int 0, .null, .int 0, .null, .null, .int 0, .int 0, .null, .null, .int 0, .int 0, .int 0, .null, .null, .null, .null, .null, .int 0, .null, .null, .int 0, .int 0, .null, .null, .null, .int 0, .null, .null])) :: _) rfl ?_
  refine gc_aload_n (i := 0) (pc := 210) dX12_init_210 rfl rfl ?_
  refine gc_bipush (nI 29) (pc := 211) dX12_init_211 (by decide) ?_
  refine gc_newa (atype := .int) (ty := .int) (a0 := (29, .inl (fun _ => 0))) 29 0 za_int rfl (fun _ => rfl) (fun _ h => by cases h) (kc_int 29) rfl (by decide) (by decide) (Nat.le_of_ble_eq_true rfl) (Nat.le_of_ble_eq_true rfl) (pc := 213) dX12_init_213 (fun a8 => ?_)
  simp only [List.nil_append, List.cons_append]
  refine gc_putF (fun _ _ _ _ _ h => h) fk_X12_39 (pc := 215) dX12_init_215 rfl rfl (Nat.le_of_ble_eq_true rfl) ?_
  refine gc_world (w2 := (h, .inr (12, [.int 0, .int 0, .ref a1, .int (nI 1), .int 0, .int 0, .int (nI 1), .ref a2, .ref a3, .ref a4, .ref a5, .ref a6, .ref a7, .ref a8, .null, .int 0, .int 0, .int 0, .int 0, .null, .int 0, .null, .null, .int 0, .int 0, .null, .null, .int 0, .int 0, .int 0, .null, .null, .null, .null, .null, .int 0, .null, .null, .int 0, .int 0, .null, .null, .null, .int 0, .null, .null])) :: _) rfl ?_
  refine gc_aload_n (i := 0) (pc := 218) dX12_init_218 rfl rfl ?_
  refine gc_bipush (nI 80) (pc := 219) dX12_init_219 (by decide) ?_
  refine gc_newa (atype := .int) (ty := .int) (a0 := (80, .inl (fun _ => 0))) 80 0 za_int rfl (fun _ => rfl) (fun _ h => by cases h) (kc_int 80) rfl (by decide) (by decide) (Nat.le_of_ble_eq_true rfl) (Nat.le_of_ble_eq_true rfl) (pc := 221) dX12_init_221 (fun a9 => ?_)
  simp only [List.nil_append, List.cons_append]
  refine gc_putF (fun _ _ _ _ _ h => h) fk_X12_42 (pc := 223) dX12_init_223 rfl rfl (Nat.le_of_ble_eq_true rfl) ?_
  refine gc_world (w2 := (h, .inr (12, [.int 0, .int 0, .ref a1, .int (nI 1), .int 0, .int 0, .int (nI 1), .ref a2, .ref a3, .ref a4, .ref a5, .ref a6, .ref a7, .ref a8, .ref a9, .int 0, .int 0, .int 0, .int 0, .null, .int 0, .null, .null, .int 0, .int 0, .null, .null, .int 0, .int 0, .int 0, .null, .null, .null, .null, .null, .int 0, .null, .null, .int 0, .int 0, .null, .null, .null, .int 0, .null, .null])) :: _) rfl ?_
  refine gc_aload_n (i := 0) (pc := 226) dX12_init_226 rfl rfl ?_
  refine gc_bipush (nI 20) (pc := 227) dX12_init_227 (by decide) ?_
  refine gc_newa (atype := .int) (ty := .int) (a0 := (20, .inl (fun _ => 0))) 20 0 za_int rfl (fun _ => rfl) (fun _ h => by cases h) (kc_int 20) rfl (by decide) (by decide) (Nat.le_of_ble_eq_true rfl) (Nat.le_of_ble_eq_true rfl) (pc := 229) dX12_init_229 (fun a10 => ?_)
  simp only [List.nil_append, List.cons_append]
  refine gc_putF (fun _ _ _ _ _ h => h) fk_X12_45 (pc := 231) dX12_init_231 rfl rfl (Nat.le_of_ble_eq_true rfl) ?_
  refine gc_world (w2 := (h, .inr (12, [.int 0, .int 0, .ref a1, .int (nI 1), .int 0, .int 0, .int (nI 1), .ref a2, .ref a3, .ref a4, .ref a5, .ref a6, .ref a7, .ref a8, .ref a9, .int 0, .int 0, .int 0, .int 0, .ref a10, .int 0, .null, .null, .int 0, .int 0, .null, .null, .int 0, .int 0, .int 0, .null, .null, .null, .null, .null, .int 0, .null, .null, .int 0, .int 0, .null, .null, .null, .int 0, .null, .null])) :: _) rfl ?_
  refine gc_aload_n (i := 0) (pc := 234) dX12_init_234 rfl rfl ?_
  refine gc_bipush (nI 80) (pc := 235) dX12_init_235 (by decide) ?_
  refine gc_newa (atype := .int) (ty := .int) (a0 := (80, .inl (fun _ => 0))) 80 0 za_int rfl (fun _ => rfl) (fun _ h => by cases h) (kc_int 80) rfl (by decide) (by decide) (Nat.le_of_ble_eq_true rfl) (Nat.le_of_ble_eq_true rfl) (pc := 237) dX12_init_237 (fun a11 => ?_)
  simp only [List.nil_append, List.cons_append]
  refine gc_putF (fun _ _ _ _ _ h => h) fk_X12_48 (pc := 239) dX12_init_239 rfl rfl (Nat.le_of_ble_eq_true rfl) ?_
  refine gc_world (w2 := (h, .inr (12, [.int 0, .int 0, .ref a1, .int (nI 1), .int 0, .int 0, .int (nI 1), .ref a2, .ref a3, .ref a4, .ref a5, .ref a6, .ref a7, .ref a8, .ref a9, .int 0, .int 0, .int 0, .int 0, .ref a10, .int 0, .ref a11, .null, .int 0, .int 0, .null, .null, .int 0, .int 0, .int 0, .null, .null, .null, .null, .null, .int 0, .null, .null, .int 0, .int 0, .null, .null, .null, .int 0, .null, .null])) :: _) rfl ?_
  refine gc_aload_n (i := 0) (pc := 242) dX12_init_242 rfl rfl ?_
  refine gc_bipush (nI 80) (pc := 243) dX12_init_243 (by decide) ?_
  refine gc_newa (atype := .int) (ty := .int) (a0 := (80, .inl (fun _ => 0))) 80 0 za_int rfl (fun _ => rfl) (fun _ h => by cases h) (kc_int 80) rfl (by decide) (by decide) (Nat.le_of_ble_eq_true rfl) (Nat.le_of_ble_eq_true rfl) (pc := 245) dX12_init_245 (fun a12 => ?_)
  simp only [List.nil_append, List.cons_append]
  refine gc_putF (fun _ _ _ _ _ h => h) fk_X12_51 (pc := 247) dX12_init_247 rfl rfl (Nat.le_of_ble_eq_true rfl) ?_
  refine gc_world (w2 := (h, .inr (12, [.int 0, .int 0, .ref a1, .int (nI 1), .int 0, .int 0, .int (nI 1), .ref a2, .ref a3, .ref a4, .ref a5, .ref a6, .ref a7, .ref a8, .ref a9, .int 0, .int 0, .int 0, .int 0, .ref a10, .int 0, .ref a11, .ref a12, .int 0, .int 0, .null, .null, .int 0, .int 0, .int 0, .null, .null, .null, .null, .null, .int 0, .null, .null, .int 0, .int 0, .null, .null, .null, .int 0, .null, .null])) :: _) rfl ?_
  refine gc_aload_n (i := 0) (pc := 250) dX12_init_250 rfl rfl ?_
  refine gc_bipush (nI 80) (pc := 251) dX12_init_251 (by decide) ?_
  refine gc_newa (atype := .int) (ty := .int) (a0 := (80, .inl (fun _ => 0))) 80 0 za_int rfl (fun _ => rfl) (fun _ h => by cases h) (kc_int 80) rfl (by decide) (by decide) (Nat.le_of_ble_eq_true rfl) (Nat.le_of_ble_eq_true rfl) (pc := 253) dX12_init_253 (fun a13 => ?_)
  simp only [List.nil_append, List.cons_append]
  refine gc_putF (fun _ _ _ _ _ h => h) fk_X12_54 (pc := 255) dX12_init_255 rfl rfl (Nat.le_of_ble_eq_true rfl) ?_
  refine gc_world (w2 := (h, .inr (12, [.int 0, .int 0, .ref a1, .int (nI 1), .int 0, .int 0, .int (nI 1), .ref a2, .ref a3, .ref a4, .ref a5, .ref a6, .ref a7, .ref a8, .ref a9, .int 0, .int 0, .int 0, .int 0, .ref a10, .int 0, .ref a11, .ref a12, .int 0, .int 0, .ref a13, .null, .int 0, .int 0, .int 0, .null, .null, .null, .null, .null, .int 0, .null, .null, .int 0, .int 0, .null, .null, .null, .int 0, .null, .null])) :: _) rfl ?_
  refine gc_aload_n (i := 0) (pc := 258) dX12_init_258 rfl rfl ?_
  refine gc_iconst (nI 5) (pc := 259) dX12_init_259 (by decide) ?_
  refine gc_newa (atype := .int) (ty := .int) (a0 := (5, .inl (fun _ => 0))) 5 0 za_int rfl (fun _ => rfl) (fun _ h => by cases h) (kc_int 5) rfl (by decide) (by decide) (Nat.le_of_ble_eq_true rfl) (Nat.le_of_ble_eq_true rfl) (pc := 260) dX12_init_260 (fun a14 => ?_)
  simp only [List.nil_append, List.cons_append]
  refine gc_putF (fun _ _ _ _ _ h => h) fk_X12_57 (pc := 262) dX12_init_262 rfl rfl (Nat.le_of_ble_eq_true rfl) ?_
  refine gc_world (w2 := (h, .inr (12, [.int 0, .int 0, .ref a1, .int (nI 1), .int 0, .int 0, .int (nI 1), .ref a2, .ref a3, .ref a4, .ref a5, .ref a6, .ref a7, .ref a8, .ref a9, .int 0, .int 0, .int 0, .int 0, .ref a10, .int 0, .ref a11, .ref a12, .int 0, .int 0, .ref a13, .ref a14, .int 0, .int 0, .int 0, .null, .null, .null, .null, .null, .int 0, .null, .null, .int 0, .int 0, .null, .null, .null, .int 0, .null, .null])) :: _) rfl ?_
  refine gc_aload_n (i := 0) (pc := 265) dX12_init_265 rfl rfl ?_
  refine gc_sipush (nI 464) (pc := 266) dX12_init_266 (by decide) ?_
  refine gc_newa (atype := .int) (ty := .int) (a0 := (464, .inl (fun _ => 0))) 464 0 za_int rfl (fun _ => rfl) (fun _ h => by cases h) (kc_int 464) rfl (by decide) (by decide) (Nat.le_of_ble_eq_true rfl) (Nat.le_of_ble_eq_true rfl) (pc := 269) dX12_init_269 (fun a15 => ?_)
  simp only [List.nil_append, List.cons_append]
  refine gc_putF (fun _ _ _ _ _ h => h) fk_X12_60 (pc := 271) dX12_init_271 rfl rfl (Nat.le_of_ble_eq_true rfl) ?_
  refine gc_world (w2 := (h, .inr (12, [.int 0, .int 0, .ref a1, .int (nI 1), .int 0, .int 0, .int (nI 1), .ref a2, .ref a3, .ref a4, .ref a5, .ref a6, .ref a7, .ref a8, .ref a9, .int 0, .int 0, .int 0, .int 0, .ref a10, .int 0, .ref a11, .ref a12, .int 0, .int 0, .ref a13, .ref a14, .int 0, .int 0, .int 0, .ref a15, .null, .null, .null, .null, .int 0, .null, .null, .int 0, .int 0, .null, .null, .null, .int 0, .null, .null])) :: _) rfl ?_
  refine gc_aload_n (i := 0) (pc := 274) dX12_init_274 rfl rfl ?_
  refine gc_bipush (nI 12) (pc := 275) dX12_init_275 (by decide) ?_
  refine gc_newa (atype := .int) (ty := .int) (a0 := (12, .inl (fun _ => 0))) 12 0 za_int rfl (fun _ => rfl) (fun _ h => by cases h) (kc_int 12) rfl (by decide) (by decide) (Nat.le_of_ble_eq_true rfl) (Nat.le_of_ble_eq_true rfl) (pc := 277) dX12_init_277 (fun a16 => ?_)
  simp only [List.nil_append, List.cons_append]
  refine gc_putF (fun _ _ _ _ _ h => h) fk_X12_63 (pc := 279) dX12_init_279 rfl rfl (Nat.le_of_ble_eq_true rfl) ?_
  refine gc_world (w2 := (h, .inr (12, [.int 0, .int 0, .ref a1, .int (nI 1), .int 0, .int 0, .int (nI 1), .ref a2, .ref a3, .ref a4, .ref a5, .ref a6, .ref a7, .ref a8, .ref a9, .int 0, .int 0, .int 0, .int 0, .ref a10, .int 0, .ref a11, .ref a12, .int 0, .int 0, .ref a13, .ref a14, .int 0, .int 0, .int 0, .ref a15, .ref a16, .null, .null, .null, .int 0, .null, .null, .int 0, .int 0, .null, .null, .null, .int 0, .null, .null])) :: _) rfl ?_
  refine gc_aload_n (i := 0) (pc := 282) dX12_init_282 rfl rfl ?_
  refine gc_bipush (nI 60) (pc := 283) dX12_init_283 (by decide) ?_
  refine gc_newa (atype := .int) (ty := .int) (a0 := (60, .inl (fun _ => 0))) 60 0 za_int rfl (fun _ => rfl) (fun _ h => by cases h) (kc_int 60) rfl (by decide) (by decide) (Nat.le_of_ble_eq_true rfl) (Nat.le_of_ble_eq_true rfl) (pc := 285) dX12_init_285 (fun a17 => ?_)
  simp only [List.nil_append, List.cons_append]
  refine gc_putF (fun _ _ _ _ _ h => h) fk_X12_66 (pc := 287) dX12_init_287 rfl rfl (Nat.le_of_ble_eq_true rfl) ?_
  refine gc_world (w2 := (h, .inr (12, [.int 0, .int 0, .ref a1, .int (nI 1), .int 0, .int 0, .int (nI 1), .ref a2, .ref a3, .ref a4, .ref a5, .ref a6, .ref a7, .ref a8, .ref a9, .int 0, .int 0, .int 0, .int 0, .ref a10, .int 0, .ref a11, .ref a12, .int 0, .int 0, .ref a13, .ref a14, .int 0, .int 0, .int 0, .ref a15, .ref a16, .ref a17, .null, .null, .int 0, .null, .null, .int 0, .int 0, .null, .null, .null, .int 0, .null, .null])) :: _) rfl ?_
  refine gc_aload_n (i := 0) (pc := 290) dX12_init_290 rfl rfl ?_
  refine gc_bipush (nI 60) (pc := 291) dX12_init_291 (by decide) ?_
  refine gc_newa (atype := .int) (ty := .int) (a0 := (60, .inl (fun _ => 0))) 60 0 za_int rfl (fun _ => rfl) (fun _ h => by cases h) (kc_int 60) rfl (by decide) (by decide) (Nat.le_of_ble_eq_true rfl) (Nat.le_of_ble_eq_true rfl) (pc := 293) dX12_init_293 (fun a18 => ?_)
  simp only [List.nil_append, List.cons_append]
  refine gc_putF (fun _ _ _ _ _ h => h) fk_X12_69 (pc := 295) dX12_init_295 rfl rfl (Nat.le_of_ble_eq_true rfl) ?_
  refine gc_world (w2 := (h, .inr (12, [.int 0, .int 0, .ref a1, .int (nI 1), .int 0, .int 0, .int (nI 1), .ref a2, .ref a3, .ref a4, .ref a5, .ref a6, .ref a7, .ref a8, .ref a9, .int 0, .int 0, .int 0, .int 0, .ref a10, .int 0, .ref a11, .ref a12, .int 0, .int 0, .ref a13, .ref a14, .int 0, .int 0, .int 0, .ref a15, .ref a16, .ref a17, .ref a18, .null, .int 0, .null, .null, .int 0, .int 0, .null, .null, .null, .int 0, .null, .null])) :: _) rfl ?_
  refine gc_aload_n (i := 0) (pc := 298) dX12_init_298 rfl rfl ?_
  refine gc_bipush (nI 60) (pc := 299) dX12_init_299 (by decide) ?_
  refine gc_newa (atype := .int) (ty := .int) (a0 := (60, .inl (fun _ => 0))) 60 0 za_int rfl (fun _ => rfl) (fun _ h => by cases h) (kc_int 60) rfl (by decide) (by decide) (Nat.le_of_ble_eq_true rfl) (Nat.le_of_ble_eq_true rfl) (pc := 301) dX12_init_301 (fun a19 => ?_)
  simp only [List.nil_append, List.cons_append]
  refine gc_putF (fun _ _ _ _ _ h => h) fk_X12_72 (pc := 303) dX12_init_303 rfl rfl (Nat.le_of_ble_eq_true rfl) ?_
  refine gc_world (w2 := (h, .inr (12, [.int 0, .int 0, .ref a1, .int (nI 1), .int 0, .int 0, .int (nI 1), .ref a2, .ref a3, .ref a4, .ref a5, .ref a6, .ref a7, .ref a8, .ref a9, .int 0, .int 0, .int 0, .int 0, .ref a10, .int 0, .ref a11, .ref a12, .int 0, .int 0, .ref a13, .ref a14, .int 0, .int 0, .int 0, .ref a15, .ref a16, .ref a17, .ref a18, .ref a19, .int 0, .null, .null, .int 0, .int 0, .null, .null, .null, .int 0, .null, .null])) :: _) rfl ?_
  refine gc_aload_n (i := 0) (pc := 306) dX12_init_306 rfl rfl ?_
  refine gc_bipush (nI 12) (pc := 307) dX12_init_307 (by decide) ?_
  refine gc_newa (atype := .int) (ty := .int) (a0 := (12, .inl (fun _ => 0))) 12 0 za_int rfl (fun _ => rfl) (fun _ h => by cases h) (kc_int 12) rfl (by decide) (by decide) (Nat.le_of_ble_eq_true rfl) (Nat.le_of_ble_eq_true rfl) (pc := 309) dX12_init_309 (fun a20 => ?_)
  simp only [List.nil_append, List.cons_append]
  refine gc_putF (fun _ _ _ _ _ h => h) fk_X12_75 (pc := 311) dX12_init_311 rfl rfl (Nat.le_of_ble_eq_true rfl) ?_
  refine gc_world (w2 := (h, .inr (12, [.int 0, .int 0, .ref a1, .int (nI 1), .int 0, .int 0, .int (nI 1), .ref a2, .ref a3, .ref a4, .ref a5, .ref a6, .ref a7, .ref a8, .ref a9, .int 0, .int 0, .int 0, .int 0, .ref a10, .int 0, .ref a11, .ref a12, .int 0, .int 0, .ref a13, .ref a14, .int 0, .int 0, .int 0, .ref a15, .ref a16, .ref a17, .ref a18, .ref a19, .int 0, .ref a20, .null, .int 0, .int 0, .null, .null, .null, .int 0, .null, .null])) :: _) rfl ?_
  refine gc_aload_n (i := 0) (pc := 314) dX12_init_314 rfl rfl ?_
  refine gc_bipush (nI 12) (pc := 315) dX12_init_315 (by decide) ?_
  refine gc_newa (atype := .int) (ty := .int) (a0 := (12, .inl (fun _ => 0))) 12 0 za_int rfl (fun _ => rfl) (fun _ h => by cases h) (kc_int 12) rfl (by decide) (by decide) (Nat.le_of_ble_eq_true rfl) (Nat.le_of_ble_eq_true rfl) (pc := 317) dX12_init_317 (fun a21 => ?_)
  simp only [List.nil_append, List.cons_append]
  refine gc_putF (fun _ _ _ _ _ h => h) fk_X12_78 (pc := 319) dX12_init_319 rfl rfl (Nat.le_of_ble_eq_true rfl) ?_
  refine gc_world (w2 := (h, .inr (12, [.int 0, .int 0, .ref a1, .int (nI 1), .int 0, .int 0, .int (nI 1), .ref a2, .ref a3, .ref a4, .ref a5, .ref a6, .ref a7, .ref a8, .ref a9, .int 0, .int 0, .int 0, .int 0, .ref a10, .int 0, .ref a11, .ref a12, .int 0, .int 0, .ref a13, .ref a14, .int 0, .int 0, .int 0, .ref a15, .ref a16, .ref a17, .ref a18, .ref a19, .int 0, .ref a20, .ref a21, .int 0, .int 0, .null, .null, .null, .int 0, .null, .null])) :: _) rfl ?_
  refine gc_aload_n (i := 0) (pc := 322) dX12_init_322 rfl rfl ?_
  refine gc_bipush (nI 12) (pc := 323) dX12_init_323 (by decide) ?_
  refine gc_newa (atype := .int) (ty := .int) (a0 := (12, .inl (fun _ => 0))) 12 0 za_int rfl (fun _ => rfl) (fun _ h => by cases h) (kc_int 12) rfl (by decide) (by decide) (Nat.le_of_ble_eq_true rfl) (Nat.le_of_ble_eq_true rfl) (pc := 325) dX12_init_325 (fun a22 => ?_)
  simp only [List.nil_append, List.cons_append]
  refine gc_putF (fun _ _ _ _ _ h => h) fk_X12_81 (pc := 327) dX12_init_327 rfl rfl (Nat.le_of_ble_eq_true rfl) ?_
  refine gc_world (w2 := (h, .inr (12, [.int 0, .int 0, .ref a1, .int (nI 1), .int 0, .int 0, .int (nI 1), .ref a2, .ref a3, .ref a4, .ref a5, .ref a6, .ref a7, .ref a8, .ref a9, .int 0, .int 0, .int 0, .int 0, .ref a10, .int 0, .ref a11, .ref a12, .int 0, .int 0, .ref a13, .ref a14, .int 0, .int 0, .int 0, .ref a15, .ref a16, .ref a17, .ref a18, .ref a19, .int 0, .ref a20, .ref a21, .int 0, .int 0, .ref a22, .null, .null, .int 0, .null, .null])) :: _) rfl ?_
  refine gc_aload_n (i := 0) (pc := 330) dX12_init_330 rfl rfl ?_
  refine gc_bipush (nI 12) (pc := 331) dX12_init_331 (by decide) ?_
  refine gc_newa (atype := .int) (ty := .int) (a0 := (12, .inl (fun _ => 0))) 12 0 za_int rfl (fun _ => rfl) (fun _ h => by cases h) (kc_int 12) rfl (by decide) (by decide) (Nat.le_of_ble_eq_true rfl) (Nat.le_of_ble_eq_true rfl) (pc := 333) dX12_init_333 (fun a23 => ?_)
  simp only [List.nil_append, List.cons_append]
  refine gc_putF (fun _ _ _ _ _ h => h) fk_X12_84 (pc := 335) dX12_init_335 rfl rfl (Nat.le_of_ble_eq_true rfl) ?_
  refine gc_world (w2 := (h, .inr (12, [.int 0, .int 0, .ref a1, .int (nI 1), .int 0, .int 0, .int (nI 1), .ref a2, .ref a3, .ref a4, .ref a5, .ref a6, .ref a7, .ref a8, .ref a9, .int 0, .int 0, .int 0, .int 0, .ref a10, .int 0, .ref a11, .ref a12, .int 0, .int 0, .ref a13, .ref a14, .int 0, .int 0, .int 0, .ref a15, .ref a16, .ref a17, .ref a18, .ref a19, .int 0, .ref a20, .ref a21, .int 0, .int 0, .ref a22, .ref a23, .null, .int 0, .null, .null])) :: _) rfl ?_
  refine gc_aload_n (i := 0) (pc := 338) dX12_init_338 rfl rfl ?_
  refine gc_bipush (nI 80) (pc := 339) dX12_init_339 (by decide) ?_
  refine gc_newa (atype := .int) (ty := .int) (a0 := (80, .inl (fun _ => 0))) 80 0 za_int rfl (fun _ => rfl) (fun _ h => by cases h) (kc_int 80) rfl (by decide) (by decide) (Nat.le_of_ble_eq_true rfl) (Nat.le_of_ble_eq_true rfl) (pc := 341) dX12_init_341 (fun a24 => ?_)
  simp only [List.nil_append, List.cons_append]
  refine gc_putF (fun _ _ _ _ _ h => h) fk_X12_87 (pc := 343) dX12_init_343 rfl rfl (Nat.le_of_ble_eq_true rfl) ?_
  refine gc_world (w2 := (h, .inr (12, [.int 0, .int 0, .ref a1, .int (nI 1), .int 0, .int 0, .int (nI 1), .ref a2, .ref a3, .ref a4, .ref a5, .ref a6, .ref a7, .ref a8, .ref a9, .int 0, .int 0, .int 0, .int 0, .ref a10, .int 0, .ref a11, .ref a12, .int 0, .int 0, .ref a13, .ref a14, .int 0, .int 0, .int 0, .ref a15, .ref a16, .ref a17, .ref a18, .ref a19, .int 0, .ref a20, .ref a21, .int 0, .int 0, .ref a22, .ref a23, .ref a24, .int 0, .null, .null])) :: _) rfl ?_
  refine gc_aload_n (i := 0) (pc := 346) dX12_init_346 rfl rfl ?_
  refine gc_iconst (nI 3) (pc := 347) dX12_init_347 (by decide) ?_
  refine gc_newa (atype := .boolean) (ty := .boolean) (a0 := (3, .inl (fun _ => 0))) 3 2 za_bool rfl (fun _ => rfl) (fun _ h => by cases h) (kc_bool 3) rfl (by decide) (by decide) (Nat.le_of_ble_eq_true rfl) (Nat.le_of_ble_eq_true rfl) (pc := 348) dX12_init_348 (fun a25 => ?_)
  simp only [List.nil_append, List.cons_append]
  refine gc_putF (fun _ _ _ _ _ h => h) fk_X12_90 (pc := 350) dX12_init_350 rfl rfl (Nat.le_of_ble_eq_true rfl) ?_
  refine gc_world (w2 := (h, .inr (12, [.int 0, .int 0, .ref a1, .int (nI 1), .int 0, .int 0, .int (nI 1), .ref a2, .ref a3, .ref a4, .ref a5, .ref a6, .ref a7, .ref a8, .ref a9, .int 0, .int 0, .int 0, .int 0, .ref a10, .int 0, .ref a11, .ref a12, .int 0, .int 0, .ref a13, .ref a14, .int 0, .int 0, .int 0, .ref a15, .ref a16, .ref a17, .ref a18, .ref a19, .int 0, .ref a20, .ref a21, .int 0, .int 0, .ref a22, .ref a23, .ref a24, .int 0, .ref a25, .null])) :: _) rfl ?_
  refine gc_aload_n (i := 0) (pc := 353) dX12_init_353 rfl rfl ?_
  refine gc_bipush (nI 87) (pc := 354) dX12_init_354 (by decide) ?_
  refine gc_newa (atype := .int) (ty := .int) (a0 := (87, .inl (fun _ => 0))) 87 0 za_int rfl (fun _ => rfl) (fun _ h => by cases h) (kc_int 87) rfl (by decide) (by decide) (Nat.le_of_ble_eq_true rfl) (Nat.le_of_ble_eq_true rfl) (pc := 356) dX12_init_356 (fun a26 => ?_)
  simp only [List.nil_append, List.cons_append]
  refine gc_putF (fun _ _ _ _ _ h => h) fk_X12_94 (pc := 358) dX12_init_358 rfl rfl (Nat.le_of_ble_eq_true rfl) ?_
  refine gc_world (w2 := (h, .inr (12, [.int 0, .int 0, .ref a1, .int (nI 1), .int 0, .int 0, .int (nI 1), .ref a2, .ref a3, .ref a4, .ref a5, .ref a6, .ref a7, .ref a8, .ref a9, .int 0, .int 0, .int 0, .int 0, .ref a10, .int 0, .ref a11, .ref a12, .int 0, .int 0, .ref a13, .ref a14, .int 0, .int 0, .int 0, .ref a15, .ref a16, .ref a17, .ref a18, .ref a19, .int 0, .ref a20, .ref a21, .int 0, .int 0, .ref a22, .ref a23, .ref a24, .int 0, .ref a25, .ref a26])) :: _) rfl ?_
  exact gc_return dX12_init_361 rfl (by decide) (by decide) ⟨a1, a2, a3, a4, a5, a6, a7, a8, a9, a10, a11, a12, a13, a14, a15, a16, a17, a18, a19, a20, a21, a22, a23, a24, a25, a26, rfl⟩
theorem gc_getA {E : zE} {A : Nat → Prop} {R : Room} {cz sz : Nat} {own : String} {cc : ByteArray} {nL : Nat} {ret : Option FieldType} {J : Launch → State → Array Value → Method → Code → Prop} {Q : List Frame → Array Value → State → State → Prop} {pc : Nat} {lv : List (Nat × Value)} {st : List Value} {idx ci f a : Nat} {v : Value} {fs : List Value} {tl w0 : va_W} (hw : zFL own idx ci f) (hd : decode cc pc = .ok (.getfield idx, 3)) (hv : fs[f]? = some v)
    (kk : GoC E A R cz sz own cc nL ret J Q (((a, .inr (ci, fs)) :: tl) ++ w0) (pc + 3) lv (v :: st)) : GoC E A R cz sz own cc nL ret J Q (((a, .inr (ci, fs)) :: tl) ++ w0) pc lv (.ref a :: st) :=
  gc_world List.cons_append (gc_get hw hd hv (gc_world List.cons_append.symm kk))
def t3 (t : Nat × Nat × Nat) (j : Nat) : Nat := match j with | 0 => t.1 | 1 => t.2.1 | _ => t.2.2
/-- addresses by group and place -/
def gAll (tab : List (List Nat)) (f3 f6 : Nat → Nat × Nat × Nat) : Nat → Nat → Nat := fun k j => bif Nat.ble 10 k && Nat.blt k 25 then t3 (f3 (k - 10)) j else bif Nat.ble 26 k && Nat.blt k 29 then t3 (f6 (k - 26)) j else (tab.getD k []).getD j 0
theorem gAll_3 {tab : List (List Nat)} {f3 f6 : Nat → Nat × Nat × Nat} {i j : Nat} (hi : i < 15) : gAll tab f3 f6 (9 + 1 + i) j = t3 (f3 i) j := by
  unfold gAll
  rw [(by decide : ∀ i, i < 15 → (Nat.ble 10 (9 + 1 + i) && Nat.blt (9 + 1 + i) 25) = true) i hi, cond_true, show 9 + 1 + i - 10 = i by omega]
theorem gAll_6 {tab : List (List Nat)} {f3 f6 : Nat → Nat × Nat × Nat} {i j : Nat} (hi : i < 3) : gAll tab f3 f6 (25 + 1 + i) j = t3 (f6 i) j := by
  unfold gAll
  rw [(by decide : ∀ i, i < 3 → (Nat.ble 10 (25 + 1 + i) && Nat.blt (25 + 1 + i) 25) = false) i hi, cond_false, (by decide : ∀ i, i < 3 → (Nat.ble 26 (25 + 1 + i) && Nat.blt (25 + 1 + i) 29) = true) i hi, cond_true, show 25 + 1 + i - 26 = i by omega]

theorem kn_X11_7 : kNew RX11 7 8 2 [.null, .int 0] := ⟨RX8, TX8, tyX8, rfl, zg1 34 rfl rfl, zg1 35 rfl rfl, zg1 2 rfl rfl, tyX8_ok, fun j hj => by
  rcases (show j = 0 ∨ j = 1 by omega) with rfl | rfl <;> rfl⟩
theorem zim_Text : Cond.instanceMethod yX8_init ∈ zG := zg1 37 rfl rfl
theorem fk_X11_10 : kFP RX11 10 11 0 (.object "ThornHedge$Text") := ⟨RX11, TX11, 17, rfl, by decide, zg2 26 rfl rfl, rfl, rfl, by decide +kernel⟩
theorem kn_X11_16 : kNew RX11 16 0 3 [.null, .null, .int 0] := ⟨RX0, TX0, tyX0, rfl, zg1 48 rfl rfl, zg1 49 rfl rfl, zg1 3 rfl rfl, tyX0_ok, fun j hj => by
  rcases (show j = 0 ∨ j = 1 ∨ j = 2 by omega) with rfl | rfl | rfl <;> rfl⟩
theorem zim_Band : Cond.instanceMethod yX0_init ∈ zG := zg1 51 rfl rfl
theorem fk_X11_19 : kFP RX11 19 11 1 (.object "ThornHedge$Band") := ⟨RX11, TX11, 17, rfl, by decide, zg2 27 rfl rfl, rfl, rfl, by decide +kernel⟩
theorem kn_X11_23 : kNew RX11 23 7 2 [.null, .int 0] := ⟨RX7, TX7, tyX7, rfl, zg1 64 rfl rfl, zg1 65 rfl rfl, zg1 4 rfl rfl, tyX7_ok, fun j hj => by
  rcases (show j = 0 ∨ j = 1 by omega) with rfl | rfl <;> rfl⟩
theorem zim_Sky : Cond.instanceMethod yX7_init ∈ zG := zg1 67 rfl rfl
theorem fk_X11_26 : kFP RX11 26 11 2 (.object "ThornHedge$Sky") := ⟨RX11, TX11, 17, rfl, by decide, zg2 28 rfl rfl, rfl, rfl, by decide +kernel⟩
theorem kn_X11_30 : kNew RX11 30 10 3 [.null, .null, .int 0] := ⟨RX10, TX10, tyX10, rfl, zg1 77 rfl rfl, zg1 78 rfl rfl, zg1 5 rfl rfl, tyX10_ok, fun j hj => by
  rcases (show j = 0 ∨ j = 1 ∨ j = 2 by omega) with rfl | rfl | rfl <;> rfl⟩
theorem zim_Town : Cond.instanceMethod yX10_init ∈ zG := zg1 80 rfl rfl
theorem fk_X11_33 : kFP RX11 33 11 3 (.object "ThornHedge$Town") := ⟨RX11, TX11, 17, rfl, by decide, zg2 29 rfl rfl, rfl, rfl, by decide +kernel⟩
theorem kn_X11_37 : kNew RX11 37 1 7 [.null, .null, .null, .int 0, .int 0, .int 0, .int 0] := ⟨RX1, TX1, tyX1, rfl, zg1 93 rfl rfl, zg1 94 rfl rfl, zg1 6 rfl rfl, tyX1_ok, fun j hj => by
  rcases (show j = 0 ∨ j = 1 ∨ j = 2 ∨ j = 3 ∨ j = 4 ∨ j = 5 ∨ j = 6 by omega) with rfl | rfl | rfl | rfl | rfl | rfl | rfl <;> rfl⟩
theorem zim_Crossing : Cond.instanceMethod yX1_init ∈ zG := zg1 96 rfl rfl
theorem fk_X11_42 : kFP RX11 42 11 4 (.object "ThornHedge$Crossing") := ⟨RX11, TX11, 17, rfl, by decide, zg2 30 rfl rfl, rfl, rfl, by decide +kernel⟩
theorem kn_X11_46 : kNew RX11 46 2 10 [.null, .null, .int 0, .int 0, .int 0, .int 0, .int 0, .int 0, .int 0, .int 0] := ⟨RX2, TX2, tyX2, rfl, zg1 121 rfl rfl, zg1 122 rfl rfl, zg1 7 rfl rfl, tyX2_ok, fun j hj => by
  rcases (show j = 0 ∨ j = 1 ∨ j = 2 ∨ j = 3 ∨ j = 4 ∨ j = 5 ∨ j = 6 ∨ j = 7 ∨ j = 8 ∨ j = 9 by omega) with rfl | rfl | rfl | rfl | rfl | rfl | rfl | rfl | rfl | rfl <;> rfl⟩
theorem fk_X11_49 : kFP RX11 49 11 5 (.object "ThornHedge$Land") := ⟨RX11, TX11, 17, rfl, by decide, zg2 31 rfl rfl, rfl, rfl, by decide +kernel⟩
theorem fk_X11_53 : kFP RX11 53 11 6 (.object "ThornHedge$Land") := ⟨RX11, TX11, 17, rfl, by decide, zg2 32 rfl rfl, rfl, rfl, by decide +kernel⟩
theorem fk_X11_56 : kFP RX11 56 11 7 (.object "ThornHedge$Land") := ⟨RX11, TX11, 17, rfl, by decide, zg2 33 rfl rfl, rfl, rfl, by decide +kernel⟩
theorem kn_X11_59 : kNew RX11 59 3 3 [.null, .int 0, .int 0] := ⟨RX3, TX3, tyX3, rfl, zg1 158 rfl rfl, zg1 159 rfl rfl, zg1 8 rfl rfl, tyX3_ok, fun j hj => by
  rcases (show j = 0 ∨ j = 1 ∨ j = 2 by omega) with rfl | rfl | rfl <;> rfl⟩
theorem zim_Past : Cond.instanceMethod yX3_init ∈ zG := zg1 161 rfl rfl
theorem fk_X11_62 : kFP RX11 62 11 8 (.object "ThornHedge$Past") := ⟨RX11, TX11, 17, rfl, by decide, zg2 34 rfl rfl, rfl, rfl, by decide +kernel⟩
theorem kn_X11_66 : kNew RX11 66 6 2 [.null, .int 0] := ⟨RX6, TX6, tyX6, rfl, zg1 177 rfl rfl, zg1 178 rfl rfl, zg1 9 rfl rfl, tyX6_ok, fun j hj => by
  rcases (show j = 0 ∨ j = 1 by omega) with rfl | rfl <;> rfl⟩
theorem zim_Shelf : Cond.instanceMethod yX6_init ∈ zG := zg1 180 rfl rfl
theorem fk_X11_69 : kFP RX11 69 11 9 (.object "ThornHedge$Shelf") := ⟨RX11, TX11, 17, rfl, by decide, zg2 35 rfl rfl, rfl, rfl, by decide +kernel⟩
theorem kn_X11_73 : kNew RX11 73 5 3 [.null, .null, .int 0] := ⟨RX5, TX5, tyX5, rfl, zg1 192 rfl rfl, zg1 193 rfl rfl, zg1 10 rfl rfl, tyX5_ok, fun j hj => by
  rcases (show j = 0 ∨ j = 1 ∨ j = 2 by omega) with rfl | rfl | rfl <;> rfl⟩
theorem zim_Rumours : Cond.instanceMethod yX5_init ∈ zG := zg1 195 rfl rfl
theorem fk_X11_76 : kFP RX11 76 11 10 (.object "ThornHedge$Rumours") := ⟨RX11, TX11, 17, rfl, by decide, zg2 36 rfl rfl, rfl, rfl, by decide +kernel⟩
theorem kn_X11_80 : kNew RX11 80 9 2 [.null, .int 0] := ⟨RX9, TX9, tyX9, rfl, zg1 208 rfl rfl, zg1 209 rfl rfl, zg1 11 rfl rfl, tyX9_ok, fun j hj => by
  rcases (show j = 0 ∨ j = 1 by omega) with rfl | rfl <;> rfl⟩
theorem zim_Told : Cond.instanceMethod yX9_init ∈ zG := zg1 211 rfl rfl
theorem fk_X11_83 : kFP RX11 83 11 11 (.object "ThornHedge$Told") := ⟨RX11, TX11, 17, rfl, by decide, zg2 37 rfl rfl, rfl, rfl, by decide +kernel⟩
theorem fk_X11_87 : kFP RX11 87 11 12 (.array .int) := ⟨RX11, TX11, 17, rfl, by decide, zg2 38 rfl rfl, rfl, rfl, by decide +kernel⟩
theorem fk_X11_91 : kFP RX11 91 11 13 (.array .int) := ⟨RX11, TX11, 17, rfl, by decide, zg2 39 rfl rfl, rfl, rfl, by decide +kernel⟩
theorem kn_X11_94 : kNew RX11 94 4 9 [.null, .null, .null, .null, .int 0, .int 0, .int 0, .int 0, .int 0] := ⟨RX4, TX4, tyX4, rfl, zg1 222 rfl rfl, zg1 223 rfl rfl, zg1 12 rfl rfl, tyX4_ok, fun j hj => by
  rcases (show j = 0 ∨ j = 1 ∨ j = 2 ∨ j = 3 ∨ j = 4 ∨ j = 5 ∨ j = 6 ∨ j = 7 ∨ j = 8 by omega) with rfl | rfl | rfl | rfl | rfl | rfl | rfl | rfl | rfl <;> rfl⟩
theorem zim_Rule : Cond.instanceMethod yX4_init ∈ zG := zg1 225 rfl rfl
def w_X11 (E : zE) (g : Nat → Nat → Nat) : va_W := (g 0 0, .inr (11, [.ref (g 1 0), .ref (g 2 0), .ref (g 3 0), .ref (g 4 0), .ref (g 5 0), .ref (g 6 0), .ref (g 7 0), .ref (g 8 0), .ref (g 9 0), .ref (g 25 0), .ref (g 29 0), .ref (g 30 0), .ref (g 0 1), .ref (g 0 2), .ref (g 31 0), .ref (g 32 0), .int 0])) :: (((((((((((((((([] ++ w_X8 E (g 1 0) (g 1 1)) ++ w_X0 E (g 2 0) (g 2 1) (g 2 2)) ++ w_X7 E (g 3 0) (g 3 1)) ++ w_X10 E (g 4 0) (g 4 1) (g 4 2)) ++ w_X1 E (g 5 0) (g 2 0) (g 3 0) (g 5 1)) ++ w_X2 E (g 6 0) (g 6 1) (g 6 2)) ++ w_X2 E (g 7 0) (g 7 1) (g 7 2)) ++ w_X2 E (g 8 0) (g 8 1) (g 8 2)) ++ w_X3 E (g 9 0) (g 9 1) (fun i => (g (9 + 1 + i) 0, g (9 + 1 + i) 1, g (9 + 1 + i) 2))) ++ w_X6 E (g 25 0) (g 25 1) (fun i => (g (25 + 1 + i) 0, g (25 + 1 + i) 1, g (25 + 1 + i) 2))) ++ w_X5 E (g 29 0) (g 29 1) (g 29 2)) ++ w_X9 E (g 30 0) (g 30 1)) ++ [(g 0 1, .inl (zC E 0, 8, .inl (fun _ => 0)))]) ++ [(g 0 2, .inl (zC E 0, 12, .inl (fun _ => 0)))]) ++ w_X4 E (g 31 0) (g 31 1) (g 31 2) (g 31 3) (g 31 4)) ++ w_X4 E (g 32 0) (g 32 1) (g 32 2) (g 32 3) (g 32 4))
theorem k_X11 {E : zE} {h : Nat} : CtM E 4 yX11_init cX11_init 1 [(h, .inr (11, [.null, .null, .null, .null, .null, .null, .null, .null, .null, .null, .null, .null, .null, .null, .null, .null, .int 0]))] [.ref h] (fun w => ∃ g : Nat → Nat → Nat, g 0 0 = h ∧ w = w_X11 E g) 96 1227 := by
  refine ctM_of (own := RX11) rfl (by decide +kernel) (Nat.le_of_ble_eq_true rfl) (fun A => ?_)
  refine gc_aload_n (i := 0) (pc := 0) dX11_init_0 rfl rfl ?_
  refine gc_obj ml_X11_1 zi_obj zc_obj (pc := 1) dX11_init_1 (by decide) (Nat.le_of_ble_eq_true rfl) ?_
  refine gc_aload_n (i := 0) (pc := 4) dX11_init_4 rfl rfl ?_
  refine gc_new kn_X11_7 (Nat.le_of_ble_eq_true rfl) (Nat.le_of_ble_eq_true rfl) (pc := 5) dX11_init_5 (fun q1 => ?_)
  refine gc_dup (pc := 8) dX11_init_8 rfl ?_
  refine gc_callIN (fun s h1 h2 => h2 _ (h1 _ (Nat.le_refl _))) (List.mem_of_getElem? (i := 0) rfl) mt_X8_init zim_Text rfl (pc := 9) dX11_init_9 k_X8 (by decide) ⟨(Nat.le_of_ble_eq_true rfl), (Nat.le_of_ble_eq_true rfl)⟩ (by decide) rfl rfl (Nat.le_of_ble_eq_true rfl) (fun w1 hw1 => ?_)
  obtain ⟨b1_1, rfl⟩ := hw1
  rw [List.cons_append]
  refine gc_putF (fun _ _ _ _ _ h => h) fk_X11_10 (pc := 12) dX11_init_12 rfl rfl (Nat.le_of_ble_eq_true rfl) ?_
  refine gc_aload_n (i := 0) (pc := 15) dX11_init_15 rfl rfl ?_
  refine gc_new kn_X11_16 (Nat.le_of_ble_eq_true rfl) (Nat.le_of_ble_eq_true rfl) (pc := 16) dX11_init_16 (fun q2 => ?_)
  refine gc_dup (pc := 19) dX11_init_19 rfl ?_
  refine gc_callIN (fun s h1 h2 => h2 _ (h1 _ (Nat.le_refl _))) (List.mem_of_getElem? (i := 1) rfl) mt_X0_init zim_Band rfl (pc := 20) dX11_init_20 k_X0 (by decide) ⟨(Nat.le_of_ble_eq_true rfl), (Nat.le_of_ble_eq_true rfl)⟩ (by decide) rfl rfl (Nat.le_of_ble_eq_true rfl) (fun w1 hw1 => ?_)
  obtain ⟨b2_1, b2_2, rfl⟩ := hw1
  rw [List.cons_append]
  refine gc_putF (fun _ _ _ _ _ h => h) fk_X11_19 (pc := 23) dX11_init_23 rfl rfl (Nat.le_of_ble_eq_true rfl) ?_
  refine gc_aload_n (i := 0) (pc := 26) dX11_init_26 rfl rfl ?_
  refine gc_new kn_X11_23 (Nat.le_of_ble_eq_true rfl) (Nat.le_of_ble_eq_true rfl) (pc := 27) dX11_init_27 (fun q3 => ?_)
  refine gc_dup (pc := 30) dX11_init_30 rfl ?_
  refine gc_callI (fun s h1 h2 => h2 _ (h1 _ (Nat.le_refl _))) ml_X11_25 mt_X7_init zim_Sky rfl (pc := 31) dX11_init_31 k_X7 (by decide) ⟨(Nat.le_of_ble_eq_true rfl), (Nat.le_of_ble_eq_true rfl)⟩ (by decide) rfl rfl (Nat.le_of_ble_eq_true rfl) (fun w1 hw1 => ?_)
  obtain ⟨b3_1, rfl⟩ := hw1
  rw [List.cons_append]
  refine gc_putF (fun _ _ _ _ _ h => h) fk_X11_26 (pc := 34) dX11_init_34 rfl rfl (Nat.le_of_ble_eq_true rfl) ?_
  refine gc_aload_n (i := 0) (pc := 37) dX11_init_37 rfl rfl ?_
  refine gc_new kn_X11_30 (Nat.le_of_ble_eq_true rfl) (Nat.le_of_ble_eq_true rfl) (pc := 38) dX11_init_38 (fun q4 => ?_)
  refine gc_dup (pc := 41) dX11_init_41 rfl ?_
  refine gc_callIN (fun s h1 h2 => h2 _ (h1 _ (Nat.le_refl _))) (List.mem_of_getElem? (i := 2) rfl) mt_X10_init zim_Town rfl (pc := 42) dX11_init_42 k_X10 (by decide) ⟨(Nat.le_of_ble_eq_true rfl), (Nat.le_of_ble_eq_true rfl)⟩ (by decide) rfl rfl (Nat.le_of_ble_eq_true rfl) (fun w1 hw1 => ?_)
  obtain ⟨b4_1, b4_2, rfl⟩ := hw1
  rw [List.cons_append]
  refine gc_putF (fun _ _ _ _ _ h => h) fk_X11_33 (pc := 45) dX11_init_45 rfl rfl (Nat.le_of_ble_eq_true rfl) ?_
  refine gc_aload_n (i := 0) (pc := 48) dX11_init_48 rfl rfl ?_
  refine gc_new kn_X11_37 (Nat.le_of_ble_eq_true rfl) (Nat.le_of_ble_eq_true rfl) (pc := 49) dX11_init_49 (fun q5 => ?_)
  refine gc_dup (pc := 52) dX11_init_52 rfl ?_
  refine gc_aload_n (i := 0) (pc := 53) dX11_init_53 rfl rfl ?_
  refine gc_getA fl_X11_19 (pc := 54) dX11_init_54 rfl ?_
  refine gc_aload_n (i := 0) (pc := 57) dX11_init_57 rfl rfl ?_
  refine gc_getA fl_X11_26 (pc := 58) dX11_init_58 rfl ?_
  refine gc_callI (fun s h1 h2 => h2 _ (h1 _ (Nat.le_refl _))) ml_X11_39 mt_X1_init zim_Crossing rfl (pc := 61) dX11_init_61 k_X1 (by decide) ⟨(Nat.le_of_ble_eq_true rfl), (Nat.le_of_ble_eq_true rfl)⟩ (by decide) rfl rfl (Nat.le_of_ble_eq_true rfl) (fun w1 hw1 => ?_)
  obtain ⟨b5_1, rfl⟩ := hw1
  rw [List.cons_append]
  refine gc_putF (fun _ _ _ _ _ h => h) fk_X11_42 (pc := 64) dX11_init_64 rfl rfl (Nat.le_of_ble_eq_true rfl) ?_
  refine gc_aload_n (i := 0) (pc := 67) dX11_init_67 rfl rfl ?_
  refine gc_new kn_X11_46 (Nat.le_of_ble_eq_true rfl) (Nat.le_of_ble_eq_true rfl) (pc := 68) dX11_init_68 (fun q6 => ?_)
  refine gc_dup (pc := 71) dX11_init_71 rfl ?_
  refine gc_callIN (fun s h1 h2 => h2 _ (h1 _ (Nat.le_refl _))) (List.mem_of_getElem? (i := 3) rfl) mt_X2_init zim_Land rfl (pc := 72) dX11_init_72 k_X2 (by decide) ⟨(Nat.le_of_ble_eq_true rfl), (Nat.le_of_ble_eq_true rfl)⟩ (by decide) rfl rfl (Nat.le_of_ble_eq_true rfl) (fun w1 hw1 => ?_)
  obtain ⟨b6_1, b6_2, rfl⟩ := hw1
  rw [List.cons_append]
  refine gc_putF (fun _ _ _ _ _ h => h) fk_X11_49 (pc := 75) dX11_init_75 rfl rfl (Nat.le_of_ble_eq_true rfl) ?_
  refine gc_aload_n (i := 0) (pc := 78) dX11_init_78 rfl rfl ?_
  refine gc_new kn_X11_46 (Nat.le_of_ble_eq_true rfl) (Nat.le_of_ble_eq_true rfl) (pc := 79) dX11_init_79 (fun q7 => ?_)
  refine gc_dup (pc := 82) dX11_init_82 rfl ?_
  refine gc_callIN (fun s h1 h2 => h2 _ (h1 _ (Nat.le_refl _))) (List.mem_of_getElem? (i := 3) rfl) mt_X2_init zim_Land rfl (pc := 83) dX11_init_83 k_X2 (by decide) ⟨(Nat.le_of_ble_eq_true rfl), (Nat.le_of_ble_eq_true rfl)⟩ (by decide) rfl rfl (Nat.le_of_ble_eq_true rfl) (fun w1 hw1 => ?_)
  obtain ⟨b7_1, b7_2, rfl⟩ := hw1
  rw [List.cons_append]
  refine gc_putF (fun _ _ _ _ _ h => h) fk_X11_53 (pc := 86) dX11_init_86 rfl rfl (Nat.le_of_ble_eq_true rfl) ?_
  refine gc_aload_n (i := 0) (pc := 89) dX11_init_89 rfl rfl ?_
  refine gc_new kn_X11_46 (Nat.le_of_ble_eq_true rfl) (Nat.le_of_ble_eq_true rfl) (pc := 90) dX11_init_90 (fun q8 => ?_)
  refine gc_dup (pc := 93) dX11_init_93 rfl ?_
  refine gc_callIN (fun s h1 h2 => h2 _ (h1 _ (Nat.le_refl _))) (List.mem_of_getElem? (i := 3) rfl) mt_X2_init zim_Land rfl (pc := 94) dX11_init_94 k_X2 (by decide) ⟨(Nat.le_of_ble_eq_true rfl), (Nat.le_of_ble_eq_true rfl)⟩ (by decide) rfl rfl (Nat.le_of_ble_eq_true rfl) (fun w1 hw1 => ?_)
  obtain ⟨b8_1, b8_2, rfl⟩ := hw1
  rw [List.cons_append]
  refine gc_putF (fun _ _ _ _ _ h => h) fk_X11_56 (pc := 97) dX11_init_97 rfl rfl (Nat.le_of_ble_eq_true rfl) ?_
  refine gc_aload_n (i := 0) (pc := 100) dX11_init_100 rfl rfl ?_
  refine gc_new kn_X11_59 (Nat.le_of_ble_eq_true rfl) (Nat.le_of_ble_eq_true rfl) (pc := 101) dX11_init_101 (fun q9 => ?_)
  refine gc_dup (pc := 104) dX11_init_104 rfl ?_
  refine gc_callI (fun s h1 h2 => h2 _ (h1 _ (Nat.le_refl _))) ml_X11_61 mt_X3_init zim_Past rfl (pc := 105) dX11_init_105 k_X3 (by decide) ⟨(Nat.le_of_ble_eq_true rfl), (Nat.le_of_ble_eq_true rfl)⟩ (by decide) rfl rfl (Nat.le_of_ble_eq_true rfl) (fun w1 hw1 => ?_)
  obtain ⟨qa9, f9, rfl⟩ := hw1
  rw [List.cons_append]
  refine gc_putF (fun _ _ _ _ _ h => h) fk_X11_62 (pc := 108) dX11_init_108 rfl rfl (Nat.le_of_ble_eq_true rfl) ?_
  refine gc_aload_n (i := 0) (pc := 111) dX11_init_111 rfl rfl ?_
  refine gc_new kn_X11_66 (Nat.le_of_ble_eq_true rfl) (Nat.le_of_ble_eq_true rfl) (pc := 112) dX11_init_112 (fun q25 => ?_)
  refine gc_dup (pc := 115) dX11_init_115 rfl ?_
  refine gc_callI (fun s h1 h2 => h2 _ (h1 _ (Nat.le_refl _))) ml_X11_68 mt_X6_init zim_Shelf rfl (pc := 116) dX11_init_116 k_X6 (by decide) ⟨(Nat.le_of_ble_eq_true rfl), (Nat.le_of_ble_eq_true rfl)⟩ (by decide) rfl rfl (Nat.le_of_ble_eq_true rfl) (fun w1 hw1 => ?_)
  obtain ⟨qa25, f25, rfl⟩ := hw1
  rw [List.cons_append]
  refine gc_putF (fun _ _ _ _ _ h => h) fk_X11_69 (pc := 119) dX11_init_119 rfl rfl (Nat.le_of_ble_eq_true rfl) ?_
  refine gc_aload_n (i := 0) (pc := 122) dX11_init_122 rfl rfl ?_
  refine gc_new kn_X11_73 (Nat.le_of_ble_eq_true rfl) (Nat.le_of_ble_eq_true rfl) (pc := 123) dX11_init_123 (fun q29 => ?_)
  refine gc_dup (pc := 126) dX11_init_126 rfl ?_
  refine gc_callIN (fun s h1 h2 => h2 _ (h1 _ (Nat.le_refl _))) (List.mem_of_getElem? (i := 4) rfl) mt_X5_init zim_Rumours rfl (pc := 127) dX11_init_127 k_X5 (by decide) ⟨(Nat.le_of_ble_eq_true rfl), (Nat.le_of_ble_eq_true rfl)⟩ (by decide) rfl rfl (Nat.le_of_ble_eq_true rfl) (fun w1 hw1 => ?_)
  obtain ⟨b29_1, b29_2, rfl⟩ := hw1
  rw [List.cons_append]
  refine gc_putF (fun _ _ _ _ _ h => h) fk_X11_76 (pc := 130) dX11_init_130 rfl rfl (Nat.le_of_ble_eq_true rfl) ?_
  refine gc_aload_n (i := 0) (pc := 133) dX11_init_133 rfl rfl ?_
  refine gc_new kn_X11_80 (Nat.le_of_ble_eq_true rfl) (Nat.le_of_ble_eq_true rfl) (pc := 134) dX11_init_134 (fun q30 => ?_)
  refine gc_dup (pc := 137) dX11_init_137 rfl ?_
  refine gc_callIN (fun s h1 h2 => h2 _ (h1 _ (Nat.le_refl _))) (List.mem_of_getElem? (i := 5) rfl) mt_X9_init zim_Told rfl (pc := 138) dX11_init_138 k_X9 (by decide) ⟨(Nat.le_of_ble_eq_true rfl), (Nat.le_of_ble_eq_true rfl)⟩ (by decide) rfl rfl (Nat.le_of_ble_eq_true rfl) (fun w1 hw1 => ?_)
  obtain ⟨b30_1, rfl⟩ := hw1
  rw [List.cons_append]
  refine gc_putF (fun _ _ _ _ _ h => h) fk_X11_83 (pc := 141) dX11_init_141 rfl rfl (Nat.le_of_ble_eq_true rfl) ?_
  refine gc_aload_n (i := 0) (pc := 144) dX11_init_144 rfl rfl ?_
  refine gc_bipush (nI 8) (pc := 145) dX11_init_145 (by decide) ?_
  refine gc_newa (atype := .int) (ty := .int) (a0 := (8, .inl (fun _ => 0))) 8 0 za_int rfl (fun _ => rfl) (fun _ h => by cases h) (kc_int 8) rfl (by decide) (by decide) (Nat.le_of_ble_eq_true rfl) (Nat.le_of_ble_eq_true rfl) (pc := 147) dX11_init_147 (fun r1 => ?_)
  rw [List.cons_append]
  refine gc_putF (fun _ _ _ _ _ h => h) fk_X11_87 (pc := 149) dX11_init_149 rfl rfl (Nat.le_of_ble_eq_true rfl) ?_
  refine gc_aload_n (i := 0) (pc := 152) dX11_init_152 rfl rfl ?_
  refine gc_bipush (nI 12) (pc := 153) dX11_init_153 (by decide) ?_
  refine gc_newa (atype := .int) (ty := .int) (a0 := (12, .inl (fun _ => 0))) 12 0 za_int rfl (fun _ => rfl) (fun _ h => by cases h) (kc_int 12) rfl (by decide) (by decide) (Nat.le_of_ble_eq_true rfl) (Nat.le_of_ble_eq_true rfl) (pc := 155) dX11_init_155 (fun r2 => ?_)
  rw [List.cons_append]
  refine gc_putF (fun _ _ _ _ _ h => h) fk_X11_91 (pc := 157) dX11_init_157 rfl rfl (Nat.le_of_ble_eq_true rfl) ?_
  refine gc_aload_n (i := 0) (pc := 160) dX11_init_160 rfl rfl ?_
  refine gc_new kn_X11_94 (Nat.le_of_ble_eq_true rfl) (Nat.le_of_ble_eq_true rfl) (pc := 161) dX11_init_161 (fun q31 => ?_)
  refine gc_dup (pc := 164) dX11_init_164 rfl ?_
  refine gc_callI (fun s h1 h2 => h2 _ (h1 _ (Nat.le_refl _))) ml_X11_96 mt_X4_init zim_Rule rfl (pc := 165) dX11_init_165 k_X4 (by decide) ⟨(Nat.le_of_ble_eq_true rfl), (Nat.le_of_ble_eq_true rfl)⟩ (by decide) rfl rfl (Nat.le_of_ble_eq_true rfl) (fun w1 hw1 => ?_)
  obtain ⟨b31_1, b31_2, b31_3, b31_4, rfl⟩ := hw1
  rw [List.cons_append]
  refine gc_put fp_X11_97 (pc := 168) dX11_init_168 rfl rfl (Nat.le_of_ble_eq_true rfl) ?_
  refine gc_aload_n (i := 0) (pc := 171) dX11_init_171 rfl rfl ?_
  refine gc_new kn_X11_94 (Nat.le_of_ble_eq_true rfl) (Nat.le_of_ble_eq_true rfl) (pc := 172) dX11_init_172 (fun q32 => ?_)
  refine gc_dup (pc := 175) dX11_init_175 rfl ?_
  refine gc_callI (fun s h1 h2 => h2 _ (h1 _ (Nat.le_refl _))) ml_X11_96 mt_X4_init zim_Rule rfl (pc := 176) dX11_init_176 k_X4 (by decide) ⟨(Nat.le_of_ble_eq_true rfl), (Nat.le_of_ble_eq_true rfl)⟩ (by decide) rfl rfl (Nat.le_of_ble_eq_true rfl) (fun w1 hw1 => ?_)
  obtain ⟨b32_1, b32_2, b32_3, b32_4, rfl⟩ := hw1
  rw [List.cons_append]
  refine gc_put fp_X11_101 (pc := 179) dX11_init_179 rfl rfl (Nat.le_of_ble_eq_true rfl) ?_
  refine gc_return dX11_init_182 rfl (by decide) (by decide) ⟨gAll [[h, r1, r2], [q1, b1_1], [q2, b2_1, b2_2], [q3, b3_1], [q4, b4_1, b4_2], [q5, b5_1], [q6, b6_1, b6_2], [q7, b7_1, b7_2], [q8, b8_1, b8_2], [q9, qa9], [], [], [], [], [], [], [], [], [], [], [], [], [], [], [], [q25, qa25], [], [], [], [q29, b29_1, b29_2], [q30, b30_1], [q31, b31_1, b31_2, b31_3, b31_4], [q32, b32_1, b32_2, b32_3, b32_4]] f9 f25, rfl, ?_⟩
  rw [w_X3_c (f := f9) (g := fun i => (gAll [[h, r1, r2], [q1, b1_1], [q2, b2_1, b2_2], [q3, b3_1], [q4, b4_1, b4_2], [q5, b5_1], [q6, b6_1, b6_2], [q7, b7_1, b7_2], [q8, b8_1, b8_2], [q9, qa9], [], [], [], [], [], [], [], [], [], [], [], [], [], [], [], [q25, qa25], [], [], [], [q29, b29_1, b29_2], [q30, b30_1], [q31, b31_1, b31_2, b31_3, b31_4], [q32, b32_1, b32_2, b32_3, b32_4]] f9 f25 (9 + 1 + i) 0, gAll [[h, r1, r2], [q1, b1_1], [q2, b2_1, b2_2], [q3, b3_1], [q4, b4_1, b4_2], [q5, b5_1], [q6, b6_1, b6_2], [q7, b7_1, b7_2], [q8, b8_1, b8_2], [q9, qa9], [], [], [], [], [], [], [], [], [], [], [], [], [], [], [], [q25, qa25], [], [], [], [q29, b29_1, b29_2], [q30, b30_1], [q31, b31_1, b31_2, b31_3, b31_4], [q32, b32_1, b32_2, b32_3, b32_4]] f9 f25 (9 + 1 + i) 1, gAll [[h, r1, r2], [q1, b1_1], [q2, b2_1, b2_2], [q3, b3_1], [q4, b4_1, b4_2], [q5, b5_1], [q6, b6_1, b6_2], [q7, b7_1, b7_2], [q8, b8_1, b8_2], [q9, qa9], [], [], [], [], [], [], [], [], [], [], [], [], [], [], [], [q25, qa25], [], [], [], [q29, b29_1, b29_2], [q30, b30_1], [q31, b31_1, b31_2, b31_3, b31_4], [q32, b32_1, b32_2, b32_3, b32_4]] f9 f25 (9 + 1 + i) 2)) (fun j hj => by show f9 j = (gAll [[h, r1, r2], [q1, b1_1], [q2, b2_1, b2_2], [q3, b3_1], [q4, b4_1, b4_2], [q5, b5_1], [q6, b6_1, b6_2], [q7, b7_1, b7_2], [q8, b8_1, b8_2], [q9, qa9], [], [], [], [], [], [], [], [], [], [], [], [], [], [], [], [q25, qa25], [], [], [], [q29, b29_1, b29_2], [q30, b30_1], [q31, b31_1, b31_2, b31_3, b31_4], [q32, b32_1, b32_2, b32_3, b32_4]] f9 f25 (9 + 1 + j) 0, gAll [[h, r1, r2], [q1, b1_1], [q2, b2_1, b2_2], [q3, b3_1], [q4, b4_1, b4_2], [q5, b5_1], [q6, b6_1, b6_2], [q7, b7_1, b7_2], [q8, b8_1, b8_2], [q9, qa9], [], [], [], [], [], [], [], [], [], [], [], [], [], [], [], [q25, qa25], [], [], [], [q29, b29_1, b29_2], [q30, b30_1], [q31, b31_1, b31_2, b31_3, b31_4], [q32, b32_1, b32_2, b32_3, b32_4]] f9 f25 (9 + 1 + j) 1, gAll [[h, r1, r2], [q1, b1_1], [q2, b2_1, b2_2], [q3, b3_1], [q4, b4_1, b4_2], [q5, b5_1], [q6, b6_1, b6_2], [q7, b7_1, b7_2], [q8, b8_1, b8_2], [q9, qa9], [], [], [], [], [], [], [], [], [], [], [], [], [], [], [], [q25, qa25], [], [], [], [q29, b29_1, b29_2], [q30, b30_1], [q31, b31_1, b31_2, b31_3, b31_4], [q32, b32_1, b32_2, b32_3, b32_4]] f9 f25 (9 + 1 + j) 2); rw [gAll_3 hj, gAll_3 hj, gAll_3 hj]; rfl), w_X6_c (f := f25) (g := fun i => (gAll [[h, r1, r2], [q1, b1_1], [q2, b2_1, b2_2], [q3, b3_1], [q4, b4_1, b4_2], [q5, b5_1], [q6, b6_1, b6_2], [q7, b7_1, b7_2], [q8, b8_1, b8_2], [q9, qa9], [], [], [], [], [], [], [], [], [], [], [], [], [], [], [], [q25, qa25], [], [], [], [q29, b29_1, b29_2], [q30, b30_1], [q31, b31_1, b31_2, b31_3, b31_4], [q32, b32_1, b32_2, b32_3, b32_4]] f9 f25 (25 + 1 + i) 0, gAll [[h, r1, r2], [q1, b1_1], [q2, b2_1, b2_2], [q3, b3_1], [q4, b4_1, b4_2], [q5, b5_1], [q6, b6_1, b6_2], [q7, b7_1, b7_2], [q8, b8_1, b8_2], [q9, qa9], [], [], [], [], [], [], [], [], [], [], [], [], [], [], [], [q25, qa25], [], [], [], [q29, b29_1, b29_2], [q30, b30_1], [q31, b31_1, b31_2, b31_3, b31_4], [q32, b32_1, b32_2, b32_3, b32_4]] f9 f25 (25 + 1 + i) 1, gAll [[h, r1, r2], [q1, b1_1], [q2, b2_1, b2_2], [q3, b3_1], [q4, b4_1, b4_2], [q5, b5_1], [q6, b6_1, b6_2], [q7, b7_1, b7_2], [q8, b8_1, b8_2], [q9, qa9], [], [], [], [], [], [], [], [], [], [], [], [], [], [], [], [q25, qa25], [], [], [], [q29, b29_1, b29_2], [q30, b30_1], [q31, b31_1, b31_2, b31_3, b31_4], [q32, b32_1, b32_2, b32_3, b32_4]] f9 f25 (25 + 1 + i) 2)) (fun j hj => by show f25 j = (gAll [[h, r1, r2], [q1, b1_1], [q2, b2_1, b2_2], [q3, b3_1], [q4, b4_1, b4_2], [q5, b5_1], [q6, b6_1, b6_2], [q7, b7_1, b7_2], [q8, b8_1, b8_2], [q9, qa9], [], [], [], [], [], [], [], [], [], [], [], [], [], [], [], [q25, qa25], [], [], [], [q29, b29_1, b29_2], [q30, b30_1], [q31, b31_1, b31_2, b31_3, b31_4], [q32, b32_1, b32_2, b32_3, b32_4]] f9 f25 (25 + 1 + j) 0, gAll [[h, r1, r2], [q1, b1_1], [q2, b2_1, b2_2], [q3, b3_1], [q4, b4_1, b4_2], [q5, b5_1], [q6, b6_1, b6_2], [q7, b7_1, b7_2], [q8, b8_1, b8_2], [q9, qa9], [], [], [], [], [], [], [], [], [], [], [], [], [], [], [], [q25, qa25], [], [], [], [q29, b29_1, b29_2], [q30, b30_1], [q31, b31_1, b31_2, b31_3, b31_4], [q32, b32_1, b32_2, b32_3, b32_4]] f9 f25 (25 + 1 + j) 1, gAll [[h, r1, r2], [q1, b1_1], [q2, b2_1, b2_2], [q3, b3_1], [q4, b4_1, b4_2], [q5, b5_1], [q6, b6_1, b6_2], [q7, b7_1, b7_2], [q8, b8_1, b8_2], [q9, qa9], [], [], [], [], [], [], [], [], [], [], [], [], [], [], [], [q25, qa25], [], [], [], [q29, b29_1, b29_2], [q30, b30_1], [q31, b31_1, b31_2, b31_3, b31_4], [q32, b32_1, b32_2, b32_3, b32_4]] f9 f25 (25 + 1 + j) 2); rw [gAll_6 hj, gAll_6 hj, gAll_6 hj]; rfl)]
  rfl

