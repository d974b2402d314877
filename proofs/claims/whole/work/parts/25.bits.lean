/-- how many bits -/
def bcn (s : Nat) : Nat := sumN 12 (fun i => if s.testBit i then 1 else 0)
def ush (x : Int32) (k : Int32) : Int32 := (x.toUInt32 >>> (k.toUInt32 &&& Int32.toUInt32 31)).toInt32
def bcE (x : Int32) : Int32 :=
  let a := x - (ush x (nI 1) &&& 1431655765)
  let b := (a &&& 858993459) + (ush a (nI 2) &&& 858993459)
  let c := (b + ush b (nI 4)) &&& 252645135
  let d := c + ush c (nI 8)
  let e := d + ush d (nI 16)
  e &&& nI 63
theorem bc_64 : ∀ a : Nat, a < 64 → ∀ b : Nat, b < 64 → bcE (nI (64 * a + b)) = nI (bcn (64 * a + b)) := by decide +kernel
theorem bc_all (s : Nat) (h : s < 4096) : bcE (nI s) = nI (bcn s) := by
  have := bc_64 (s / 64) (by omega) (s % 64) (by omega)
  rw [show 64 * (s / 64) + s % 64 = s by omega] at this
  exact this

theorem c_J6_bitCount_0f7a4 {E : zE} {σ : zT} {x : Int32}  : CalM E 0 yJ6_bitCount_0f7a4 cJ6_bitCount_0f7a4 1 (some .int) [.int x] σ (fun r σ' => r = some (.int (bcE x)) ∧ σ' = σ) := by
  refine cal_of_go (own := RJ6) rfl (by decide +kernel) (Nat.le_of_ble_eq_true rfl) ?_
  refine go_iload_n (i := 0) (pc := 0) dJ6_bitCount_0f7a4_0 rfl rfl ?_
  refine go_iload_n (i := 0) (pc := 1) dJ6_bitCount_0f7a4_1 rfl rfl ?_
  refine go_iconst (nI 1) (pc := 2) dJ6_bitCount_0f7a4_2 (by decide) ?_
  refine go_iushr (pc := 3) dJ6_bitCount_0f7a4_3 ?_
  refine go_ldcw (1431655765) kc_J6_265 (pc := 4) dJ6_bitCount_0f7a4_4 ?_
  refine go_iand (pc := 7) dJ6_bitCount_0f7a4_7 ?_
  refine go_isub (pc := 8) dJ6_bitCount_0f7a4_8 ?_
  refine go_istore_n (i := 0) (pc := 9) dJ6_bitCount_0f7a4_9 rfl (by decide) ?_
  refine go_iload_n (i := 0) (pc := 10) dJ6_bitCount_0f7a4_10 rfl rfl ?_
  refine go_ldcw (858993459) kc_J6_266 (pc := 11) dJ6_bitCount_0f7a4_11 ?_
  refine go_iand (pc := 14) dJ6_bitCount_0f7a4_14 ?_
  refine go_iload_n (i := 0) (pc := 15) dJ6_bitCount_0f7a4_15 rfl rfl ?_
  refine go_iconst (nI 2) (pc := 16) dJ6_bitCount_0f7a4_16 (by decide) ?_
  refine go_iushr (pc := 17) dJ6_bitCount_0f7a4_17 ?_
  refine go_ldcw (858993459) kc_J6_266 (pc := 18) dJ6_bitCount_0f7a4_18 ?_
  refine go_iand (pc := 21) dJ6_bitCount_0f7a4_21 ?_
  refine go_iadd (pc := 22) dJ6_bitCount_0f7a4_22 ?_
  refine go_istore_n (i := 0) (pc := 23) dJ6_bitCount_0f7a4_23 rfl (by decide) ?_
  refine go_iload_n (i := 0) (pc := 24) dJ6_bitCount_0f7a4_24 rfl rfl ?_
  refine go_iload_n (i := 0) (pc := 25) dJ6_bitCount_0f7a4_25 rfl rfl ?_
  refine go_iconst (nI 4) (pc := 26) dJ6_bitCount_0f7a4_26 (by decide) ?_
  refine go_iushr (pc := 27) dJ6_bitCount_0f7a4_27 ?_
  refine go_iadd (pc := 28) dJ6_bitCount_0f7a4_28 ?_
  refine go_ldcw (252645135) kc_J6_267 (pc := 29) dJ6_bitCount_0f7a4_29 ?_
  refine go_iand (pc := 32) dJ6_bitCount_0f7a4_32 ?_
  refine go_istore_n (i := 0) (pc := 33) dJ6_bitCount_0f7a4_33 rfl (by decide) ?_
  refine go_iload_n (i := 0) (pc := 34) dJ6_bitCount_0f7a4_34 rfl rfl ?_
  refine go_iload_n (i := 0) (pc := 35) dJ6_bitCount_0f7a4_35 rfl rfl ?_
  refine go_bipush (nI 8) (pc := 36) dJ6_bitCount_0f7a4_36 (by decide) ?_
  refine go_iushr (pc := 38) dJ6_bitCount_0f7a4_38 ?_
  refine go_iadd (pc := 39) dJ6_bitCount_0f7a4_39 ?_
  refine go_istore_n (i := 0) (pc := 40) dJ6_bitCount_0f7a4_40 rfl (by decide) ?_
  refine go_iload_n (i := 0) (pc := 41) dJ6_bitCount_0f7a4_41 rfl rfl ?_
  refine go_iload_n (i := 0) (pc := 42) dJ6_bitCount_0f7a4_42 rfl rfl ?_
  refine go_bipush (nI 16) (pc := 43) dJ6_bitCount_0f7a4_43 (by decide) ?_
  refine go_iushr (pc := 45) dJ6_bitCount_0f7a4_45 ?_
  refine go_iadd (pc := 46) dJ6_bitCount_0f7a4_46 ?_
  refine go_istore_n (i := 0) (pc := 47) dJ6_bitCount_0f7a4_47 rfl (by decide) ?_
  refine go_iload_n (i := 0) (pc := 48) dJ6_bitCount_0f7a4_48 rfl rfl ?_
  refine go_bipush (nI 63) (pc := 49) dJ6_bitCount_0f7a4_49 (by decide) ?_
  refine go_iand (pc := 51) dJ6_bitCount_0f7a4_51 ?_
  refine go_ireturn (pc := 52) dJ6_bitCount_0f7a4_52 rfl ?_
  exact ⟨rfl, rfl⟩

theorem c_bc {E : zE} {σ : zT} {s : Nat} (hs : s < 4096) : CalM E 0 yJ6_bitCount_0f7a4 cJ6_bitCount_0f7a4 1 (some .int) [.int (nI s)] σ (fun r σ' => r = some (.int (nI (bcn s))) ∧ σ' = σ) :=
  cal_weak c_J6_bitCount_0f7a4 (fun r σ' h => by rw [bc_all s hs] at h; exact h)
theorem bcn_le (s : Nat) : bcn s ≤ 12 := Nat.le_trans (sumN_le (c := 1) (fun i _ => by split <;> omega)) (by decide)

