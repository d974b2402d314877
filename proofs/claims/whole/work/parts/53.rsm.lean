theorem c_X12_in {E : zE} {σ : zT} {a b c : Int64}  : CalM E 0 yX12_in cX12_in 6 (some .boolean) [.long a, .long b, .long c] σ (fun r σ' => r = some (.int (zb (decide (b.toInt ≤ a.toInt ∧ a.toInt ≤ c.toInt)))) ∧ σ' = σ) := by
  refine cal_of_go (own := RX12) rfl (by decide +kernel) (Nat.le_of_ble_eq_true rfl) ?_
  refine go_lload_n (i := 0) (pc := 0) dX12_in_0 rfl rfl ?_
  refine go_lload_n (i := 2) (pc := 1) dX12_in_1 rfl rfl ?_
  refine go_lcmp (pc := 2) dX12_in_2 ?_
  refine go_if_lt 17 (pc := 3) dX12_in_3 (by decide) (fun h3 => ?_) (fun h3 => ?_)
  · rw [lg_cmp_lt, Int64.lt_iff_toInt_lt] at h3
    refine go_iconst (nI 0) (pc := 17) dX12_in_17 (by decide) ?_
    refine go_zreturn (pc := 18) dX12_in_18 rfl (by first | rfl | (apply zb_nar)) ?_
    first | exact ⟨zr_f (by omega), rfl⟩ | exact ⟨zr_t (by omega), rfl⟩
  · rw [lg_cmp_lt, Int64.lt_iff_toInt_lt] at h3
    refine go_lload_n (i := 0) (pc := 6) dX12_in_6 rfl rfl ?_
    refine go_lload (pc := 7) dX12_in_7 rfl ?_
    refine go_lcmp (pc := 9) dX12_in_9 ?_
    refine go_if_gt 17 (pc := 10) dX12_in_10 (by decide) (fun h10 => ?_) (fun h10 => ?_)
    · rw [lg_cmp_gt, Int64.lt_iff_toInt_lt] at h10
      refine go_iconst (nI 0) (pc := 17) dX12_in_17 (by decide) ?_
      refine go_zreturn (pc := 18) dX12_in_18 rfl (by first | rfl | (apply zb_nar)) ?_
      first | exact ⟨zr_f (by omega), rfl⟩ | exact ⟨zr_t (by omega), rfl⟩
    · rw [lg_cmp_gt, Int64.lt_iff_toInt_lt] at h10
      refine go_iconst (nI 1) (pc := 13) dX12_in_13 (by decide) ?_
      refine go_goto 18 (pc := 14) dX12_in_14 (by decide) ?_
      refine go_zreturn (pc := 18) dX12_in_18 rfl (by first | rfl | (apply zb_nar)) ?_
      first | exact ⟨zr_f (by omega), rfl⟩ | exact ⟨zr_t (by omega), rfl⟩

/-- in over ints -/
theorem c_in {E : zE} {σ : zT} {a : Int32} {b c : Int64} {lo hi : Int} (hb : b.toInt = lo) (hc : c.toInt = hi) : CalM E 0 yX12_in cX12_in 6 (some .boolean) [.long a.toInt64, .long b, .long c] σ (fun r σ' => r = some (.int (zb (decide (lo ≤ a.toInt ∧ a.toInt ≤ hi)))) ∧ σ' = σ) :=
  cal_weak c_X12_in (fun r σ' h => by rw [hb, hc, zl_i] at h; exact h)

theorem c_X12_has {E : zE} {σ : zT} {b m : Nat} (hb : b < 2 ^ 12) (hm : m < 12) : CalM E 0 yX12_has cX12_has 2 (some .boolean) [.int (nI b), .int (nI m)] σ (fun r σ' => r = some (.int (zb (b.testBit m))) ∧ σ' = σ) := by
  refine cal_of_go (own := RX12) rfl (by decide +kernel) (Nat.le_of_ble_eq_true rfl) ?_
  refine go_iload_n (i := 0) (pc := 0) dX12_has_0 rfl rfl ?_
  refine go_iload_n (i := 1) (pc := 1) dX12_has_1 rfl rfl ?_
  refine go_ishr (pc := 2) dX12_has_2 ?_
  refine go_iconst (nI 1) (pc := 3) dX12_has_3 (by decide) ?_
  refine go_iand (pc := 4) dX12_has_4 ?_
  rw [zbit hb hm]
  refine go_iconst (nI 1) (pc := 5) dX12_has_5 (by decide) ?_
  refine go_icmp_ne 13 (pc := 6) dX12_has_6 (by decide) (fun h6 => ?_) (fun h6 => ?_)
  · refine go_iconst (nI 0) (pc := 13) dX12_has_13 (by decide) ?_
    refine go_zreturn (pc := 14) dX12_has_14 rfl (by first | rfl | (apply zb_nar)) ?_
    cases hq : b.testBit m with
    | true => first | exact ⟨rfl, rfl⟩ | (rw [hq] at h6; exact absurd rfl h6)
    | false => first | exact ⟨rfl, rfl⟩ | (rw [hq] at h6; exact absurd h6 (by decide))
  · refine go_iconst (nI 1) (pc := 9) dX12_has_9 (by decide) ?_
    refine go_goto 14 (pc := 10) dX12_has_10 (by decide) ?_
    refine go_zreturn (pc := 14) dX12_has_14 rfl (by first | rfl | (apply zb_nar)) ?_
    cases hq : b.testBit m with
    | true => first | exact ⟨rfl, rfl⟩ | (rw [hq] at h6; exact absurd rfl h6)
    | false => first | exact ⟨rfl, rfl⟩ | (rw [hq] at h6; exact absurd h6 (by decide))

theorem c_X12_flag {E : zE} {σ : zT} {b : Bool}  : CalM E 0 yX12_flag cX12_flag 1 (some .int) [.int (zb b)] σ (fun r σ' => r = some (.int (zb b)) ∧ σ' = σ) := by
  refine cal_of_go (own := RX12) rfl (by decide +kernel) (Nat.le_of_ble_eq_true rfl) ?_
  refine go_iload_n (i := 0) (pc := 0) dX12_flag_0 rfl rfl ?_
  refine go_if_eq 8 (pc := 1) dX12_flag_1 (by decide) (fun h1 => ?_) (fun h1 => ?_)
  · rw [zb_0] at h1
    refine go_iconst (nI 0) (pc := 8) dX12_flag_8 (by decide) ?_
    refine go_ireturn (pc := 9) dX12_flag_9 rfl ?_
    cases b with
    | true => first | exact ⟨rfl, rfl⟩ | cases h1
    | false => first | exact ⟨rfl, rfl⟩ | exact absurd rfl h1
  · rw [zb_0] at h1
    refine go_iconst (nI 1) (pc := 4) dX12_flag_4 (by decide) ?_
    refine go_goto 9 (pc := 5) dX12_flag_5 (by decide) ?_
    refine go_ireturn (pc := 9) dX12_flag_9 rfl ?_
    cases b with
    | true => first | exact ⟨rfl, rfl⟩ | cases h1
    | false => first | exact ⟨rfl, rfl⟩ | exact absurd rfl h1

theorem c_X12_isMile {E : zE} {σ : zT} {n : Nat} {m : Int32} (h3 : σ.1 33 3 = nI n) (hn : n < 2 ^ 31) : CalM E 1 yX12_isMile cX12_isMile 2 (some .boolean) [.ref (zA E 33 0), .int m] σ (fun r σ' => r = some (.int (zb (decide (0 ≤ m.toInt ∧ m.toInt < (n : Int))))) ∧ σ' = σ) := by
  refine cal_of_go (own := RX12) rfl (by decide +kernel) (Nat.le_of_ble_eq_true rfl) ?_
  refine go_iload_n (i := 1) (pc := 0) dX12_isMile_0 rfl rfl ?_
  refine go_i2l (pc := 1) dX12_isMile_1 ?_
  refine go_lconst (lN 0) (pc := 2) dX12_isMile_2 (by decide) ?_
  refine go_aload_n (i := 0) (pc := 3) dX12_isMile_3 rfl rfl ?_
  refine go_geti fl_X12_13 (pc := 4) dX12_isMile_4 (by rfl) ?_
  rw [h3]
  refine go_iconst (nI 1) (pc := 7) dX12_isMile_7 (by decide) ?_
  refine go_isub (pc := 8) dX12_isMile_8 ?_
  refine go_i2l (pc := 9) dX12_isMile_9 ?_
  refine go_callS ml_X12_107 mt_X12_in (pc := 10) dX12_isMile_10 (c_in (lo := 0) (hi := (n : Int) - 1) (by decide) (by rw [zl_i, zi_p hn])) (by decide) (by decide) rfl rfl (Nat.le_of_ble_eq_true rfl) (fun r σ' hp => ?_)
  obtain ⟨rfl, hσ⟩ := hp
  rw [hσ]
  clear hσ σ'
  dsimp only [zRet]
  rw [show decide (0 ≤ m.toInt ∧ m.toInt ≤ (n : Int) - 1) = decide (0 ≤ m.toInt ∧ m.toInt < (n : Int)) by apply decide_eq_decide.mpr; omega]
  refine go_zreturn (pc := 13) dX12_isMile_13 rfl (by first | rfl | (apply zb_nar)) ?_
  exact ⟨rfl, rfl⟩

theorem c_X12_isCarrier {E : zE} {σ : zT} {n : Nat} {m : Int32} (h3 : σ.1 33 4 = nI n) (hn : n < 2 ^ 31) : CalM E 1 yX12_isCarrier cX12_isCarrier 2 (some .boolean) [.ref (zA E 33 0), .int m] σ (fun r σ' => r = some (.int (zb (decide (0 ≤ m.toInt ∧ m.toInt < (n : Int))))) ∧ σ' = σ) := by
  refine cal_of_go (own := RX12) rfl (by decide +kernel) (Nat.le_of_ble_eq_true rfl) ?_
  refine go_iload_n (i := 1) (pc := 0) dX12_isCarrier_0 rfl rfl ?_
  refine go_i2l (pc := 1) dX12_isCarrier_1 ?_
  refine go_lconst (lN 0) (pc := 2) dX12_isCarrier_2 (by decide) ?_
  refine go_aload_n (i := 0) (pc := 3) dX12_isCarrier_3 rfl rfl ?_
  refine go_geti fl_X12_111 (pc := 4) dX12_isCarrier_4 (by rfl) ?_
  rw [h3]
  refine go_iconst (nI 1) (pc := 7) dX12_isCarrier_7 (by decide) ?_
  refine go_isub (pc := 8) dX12_isCarrier_8 ?_
  refine go_i2l (pc := 9) dX12_isCarrier_9 ?_
  refine go_callS ml_X12_107 mt_X12_in (pc := 10) dX12_isCarrier_10 (c_in (lo := 0) (hi := (n : Int) - 1) (by decide) (by rw [zl_i, zi_p hn])) (by decide) (by decide) rfl rfl (Nat.le_of_ble_eq_true rfl) (fun r σ' hp => ?_)
  obtain ⟨rfl, hσ⟩ := hp
  rw [hσ]
  clear hσ σ'
  dsimp only [zRet]
  rw [show decide (0 ≤ m.toInt ∧ m.toInt ≤ (n : Int) - 1) = decide (0 ≤ m.toInt ∧ m.toInt < (n : Int)) by apply decide_eq_decide.mpr; omega]
  refine go_zreturn (pc := 13) dX12_isCarrier_13 rfl (by first | rfl | (apply zb_nar)) ?_
  exact ⟨rfl, rfl⟩

theorem c_X12_isGate {E : zE} {σ : zT} {j m : Nat} {ρ : Nat → Nat} (hj : zM j = true) (hw : RwIs σ j ρ) (hg : ρ 24 < 2 ^ 12) (hm : m < 12) : CalM E 1 yX12_isGate cX12_isGate 3 (some .boolean) [.ref (zA E 33 0), .ref (zA E 33 j), .int (nI m)] σ (fun r σ' => r = some (.int (zb ((ρ 24).testBit m))) ∧ σ' = σ) := by
  refine cal_of_go (own := RX12) rfl (by decide +kernel) (Nat.le_of_ble_eq_true rfl) ?_
  refine go_aload_n (i := 1) (pc := 0) dX12_isGate_0 rfl rfl ?_
  refine go_bipush (nI 24) (pc := 1) dX12_isGate_1 (by decide) ?_
  refine go_iaload _ (pc := 3) dX12_isGate_3 (by first | rfl | (apply zM_ar <;> assumption)) (by first | rfl | (apply zM_jn <;> assumption)) rfl (by first | assumption | omega) ?_
  rw [hw 24 (by decide)]
  refine go_iload_n (i := 2) (pc := 4) dX12_isGate_4 rfl rfl ?_
  refine go_callS ml_X12_114 mt_X12_has (pc := 5) dX12_isGate_5 (c_X12_has hg hm) (by decide) (by decide) rfl rfl (Nat.le_of_ble_eq_true rfl) (fun r σ' hp => ?_)
  obtain ⟨rfl, hσ⟩ := hp
  rw [hσ]
  clear hσ σ'
  dsimp only [zRet]
  refine go_zreturn (pc := 8) dX12_isGate_8 rfl (by first | rfl | (apply zb_nar)) ?_
  exact ⟨rfl, rfl⟩

theorem c_X12_allMen {E : zE} {σ : zT} {j n : Nat} {ρ : Nat → Nat} (hj : zM j = true) (hw : RwIs σ j ρ) (hok : RowOK n ρ) (h3 : σ.1 33 3 = nI n) : CalM E 0 yX12_allMen cX12_allMen 4 (some .int) [.ref (zA E 33 0), .ref (zA E 33 j)] σ (fun r σ' => r = some (.int (nI (menSum n ρ))) ∧ σ' = σ) := by
  refine cal_of_go (own := RX12) rfl (by decide +kernel) (Nat.le_of_ble_eq_true rfl) ?_
  have hn : 1 ≤ n ∧ n ≤ 12 := ⟨hok.1, hok.2.1⟩
  have hs : ∀ i, i ≤ 12 → sumN i (fun i => ρ (12 + i)) ≤ 12 * 9 := fun i hi => Nat.le_trans (sumN_le (c := 9) (fun q hq => hok.2.2.1 _ (by omega))) (Nat.mul_le_mul_right 9 hi)
  have loop : ∀ i : Nat, i ≤ n → GoM E 0 RX12 cX12_allMen 4 (some .int) (fun r σ' => r = some (.int (nI (menSum n ρ))) ∧ σ' = σ) σ 4 [(0, .ref (zA E 33 0)), (1, .ref (zA E 33 j)), (2, .int (nI (sumN i (fun i => ρ (12 + i))))), (3, .int (nI i))] [] := by
    intro i
    induction hz : n - i using Nat.strongRecOn generalizing i with
    | ind z ih =>
      intro hi
      refine go_iload_n (i := 3) (pc := 4) dX12_allMen_4 rfl rfl ?_
      refine go_aload_n (i := 0) (pc := 5) dX12_allMen_5 rfl rfl ?_
      refine go_geti fl_X12_13 (pc := 6) dX12_allMen_6 (by rfl) ?_
      rw [h3]
      refine go_icmp_ge 27 (pc := 9) dX12_allMen_9 (by decide) (fun h9 => ?_) (fun h9 => ?_)
      · first | rw [nI_leI (by omega) (by omega)] at h9 | rw [zi_leN (by omega)] at h9 | rw [zi_Nle (by omega)] at h9 | rw [zi_le] at h9
        have e : i = n := by omega
        subst e
        refine go_iload_n (i := 2) (pc := 27) dX12_allMen_27 rfl rfl ?_
        refine go_ireturn (pc := 28) dX12_allMen_28 rfl ?_
        exact ⟨rfl, rfl⟩
      · first | rw [nI_leI (by omega) (by omega)] at h9 | rw [zi_leN (by omega)] at h9 | rw [zi_Nle (by omega)] at h9 | rw [zi_le] at h9
        refine go_iload_n (i := 2) (pc := 12) dX12_allMen_12 rfl rfl ?_
        refine go_aload_n (i := 1) (pc := 13) dX12_allMen_13 rfl rfl ?_
        refine go_bipush (nI 12) (pc := 14) dX12_allMen_14 (by decide) ?_
        refine go_iload_n (i := 3) (pc := 16) dX12_allMen_16 rfl rfl ?_
        first | with_reducible refine go_iaddN (pc := 17) dX12_allMen_17 ?_ | refine go_iadd (pc := 17) dX12_allMen_17 ?_
        refine go_iaload _ (pc := 18) dX12_allMen_18 (by first | rfl | (apply zM_ar <;> assumption)) (by first | rfl | (apply zM_jn <;> assumption)) rfl (by first | assumption | omega) ?_
        rw [hw _ (by omega)]
        first | with_reducible refine go_iaddN (pc := 19) dX12_allMen_19 ?_ | refine go_iadd (pc := 19) dX12_allMen_19 ?_
        refine go_istore_n (i := 2) (pc := 20) dX12_allMen_20 rfl (by decide) ?_
        refine go_iincN (pc := 21) dX12_allMen_21 rfl (by decide) ?_
        refine go_goto 4 (pc := 24) dX12_allMen_24 (by decide) ?_
        exact ih (n - (i + 1)) (by omega) (i + 1) rfl (by omega)
  refine go_iconst (nI 0) (pc := 0) dX12_allMen_0 (by decide) ?_
  refine go_istore_n (i := 2) (pc := 1) dX12_allMen_1 rfl (by decide) ?_
  refine go_iconst (nI 0) (pc := 2) dX12_allMen_2 (by decide) ?_
  refine go_istore_n (i := 3) (pc := 3) dX12_allMen_3 rfl (by decide) ?_
  exact loop 0 (by omega)

theorem c_X12_allHedge {E : zE} {σ : zT} {j n : Nat} {ρ : Nat → Nat} (hj : zM j = true) (hw : RwIs σ j ρ) (hok : RowOK n ρ) (h3 : σ.1 33 3 = nI n) : CalM E 0 yX12_allHedge cX12_allHedge 4 (some .int) [.ref (zA E 33 0), .ref (zA E 33 j)] σ (fun r σ' => r = some (.int (nI (hedSum n ρ))) ∧ σ' = σ) := by
  refine cal_of_go (own := RX12) rfl (by decide +kernel) (Nat.le_of_ble_eq_true rfl) ?_
  have hn : 1 ≤ n ∧ n ≤ 12 := ⟨hok.1, hok.2.1⟩
  have hs : ∀ i, i ≤ 12 → sumN i ρ ≤ 12 * 9 := fun i hi => Nat.le_trans (sumN_le (c := 9) (fun q hq => hok.2.2.1 _ (by omega))) (Nat.mul_le_mul_right 9 hi)
  have loop : ∀ i : Nat, i ≤ n → GoM E 0 RX12 cX12_allHedge 4 (some .int) (fun r σ' => r = some (.int (nI (hedSum n ρ))) ∧ σ' = σ) σ 4 [(0, .ref (zA E 33 0)), (1, .ref (zA E 33 j)), (2, .int (nI (sumN i ρ))), (3, .int (nI i))] [] := by
    intro i
    induction hz : n - i using Nat.strongRecOn generalizing i with
    | ind z ih =>
      intro hi
      refine go_iload_n (i := 3) (pc := 4) dX12_allHedge_4 rfl rfl ?_
      refine go_aload_n (i := 0) (pc := 5) dX12_allHedge_5 rfl rfl ?_
      refine go_geti fl_X12_13 (pc := 6) dX12_allHedge_6 (by rfl) ?_
      rw [h3]
      refine go_icmp_ge 24 (pc := 9) dX12_allHedge_9 (by decide) (fun h9 => ?_) (fun h9 => ?_)
      · first | rw [nI_leI (by omega) (by omega)] at h9 | rw [zi_leN (by omega)] at h9 | rw [zi_Nle (by omega)] at h9 | rw [zi_le] at h9
        have e : i = n := by omega
        subst e
        refine go_iload_n (i := 2) (pc := 24) dX12_allHedge_24 rfl rfl ?_
        refine go_ireturn (pc := 25) dX12_allHedge_25 rfl ?_
        exact ⟨rfl, rfl⟩
      · first | rw [nI_leI (by omega) (by omega)] at h9 | rw [zi_leN (by omega)] at h9 | rw [zi_Nle (by omega)] at h9 | rw [zi_le] at h9
        refine go_iload_n (i := 2) (pc := 12) dX12_allHedge_12 rfl rfl ?_
        refine go_aload_n (i := 1) (pc := 13) dX12_allHedge_13 rfl rfl ?_
        refine go_iload_n (i := 3) (pc := 14) dX12_allHedge_14 rfl rfl ?_
        refine go_iaload _ (pc := 15) dX12_allHedge_15 (by first | rfl | (apply zM_ar <;> assumption)) (by first | rfl | (apply zM_jn <;> assumption)) rfl (by first | assumption | omega) ?_
        rw [hw _ (by omega)]
        first | with_reducible refine go_iaddN (pc := 16) dX12_allHedge_16 ?_ | refine go_iadd (pc := 16) dX12_allHedge_16 ?_
        refine go_istore_n (i := 2) (pc := 17) dX12_allHedge_17 rfl (by decide) ?_
        refine go_iincN (pc := 18) dX12_allHedge_18 rfl (by decide) ?_
        refine go_goto 4 (pc := 21) dX12_allHedge_21 (by decide) ?_
        exact ih (n - (i + 1)) (by omega) (i + 1) rfl (by omega)
  refine go_iconst (nI 0) (pc := 0) dX12_allHedge_0 (by decide) ?_
  refine go_istore_n (i := 2) (pc := 1) dX12_allHedge_1 rfl (by decide) ?_
  refine go_iconst (nI 0) (pc := 2) dX12_allHedge_2 (by decide) ?_
  refine go_istore_n (i := 3) (pc := 3) dX12_allHedge_3 rfl (by decide) ?_
  exact loop 0 (by omega)

theorem c_X12_enters {E : zE} {σ : zT} {t : Nat} {v : Int64} (ht : σ.1 33 1 = nI t) (h24 : t < 24) : CalM E 0 yX12_enters cX12_enters 3 none [.ref (zA E 33 0), .long v] σ (fun r σ' => r = none ∧ σ' = uS (uL σ 33 (vp_updL (σ.2.2.1 33) t v)) 33 1 (nI (t + 1))) := by
  refine cal_of_go (own := RX12) rfl (by decide +kernel) (Nat.le_of_ble_eq_true rfl) ?_
  refine go_aload_n (i := 0) (pc := 0) dX12_enters_0 rfl rfl ?_
  refine go_getr2 fl_X12_9 (pc := 1) dX12_enters_1 (by rfl) (by rfl) (by rfl) ?_
  refine go_aload_n (i := 0) (pc := 4) dX12_enters_4 rfl rfl ?_
  refine go_geti fl_X12_104 (pc := 5) dX12_enters_5 (by rfl) ?_
  rw [ht]
  refine go_lload_n (i := 1) (pc := 8) dX12_enters_8 rfl rfl ?_
  refine go_lastore _ (pc := 9) dX12_enters_9 (by first | rfl | (apply zM_ar <;> assumption)) (by first | rfl | (apply zM_jn <;> assumption)) (by first | exact zl_30 | exact zl_33 | exact zl_34) rfl (by first | assumption | omega) ?_
  refine go_aload_n (i := 0) (pc := 10) dX12_enters_10 rfl rfl ?_
  refine go_dup (pc := 11) dX12_enters_11 rfl ?_
  refine go_geti fl_X12_104 (pc := 12) dX12_enters_12 (by rfl) ?_
  rw [show (uL σ 33 (vp_updL (σ.2.2.1 33) t v)).1 33 1 = nI t from ht]
  refine go_iconst (nI 1) (pc := 15) dX12_enters_15 (by decide) ?_
  first | with_reducible refine go_iaddN (pc := 16) dX12_enters_16 ?_ | refine go_iadd (pc := 16) dX12_enters_16 ?_
  refine go_puti fp_X12_104 (pc := 17) dX12_enters_17 (by rfl) rfl rfl ?_
  refine go_return (pc := 20) dX12_enters_20 rfl ?_
  exact ⟨rfl, rfl⟩

theorem c_X12_thrown {E : zE} {σ : zT}   : CalM E 0 yX12_thrown cX12_thrown 1 (some .int) [.ref (zA E 33 0)] σ (fun r σ' => r = some (.int (σ.1 33 0)) ∧ σ' = σ) := by
  refine cal_of_go (own := RX12) rfl (by decide +kernel) (Nat.le_of_ble_eq_true rfl) ?_
  refine go_aload_n (i := 0) (pc := 0) dX12_thrown_0 rfl rfl ?_
  refine go_geti fl_X12_97 (pc := 1) dX12_thrown_1 (by rfl) ?_
  refine go_ireturn (pc := 4) dX12_thrown_4 rfl ?_
  exact ⟨rfl, rfl⟩

theorem c_X12_refuse {E : zE} {σ : zT}   : CalM E 0 yX12_refuse cX12_refuse 1 (some .int) [.ref (zA E 33 0)] σ (fun r σ' => r = some (.int (nI 0)) ∧ σ' = uS σ 33 0 (nI 1)) := by
  refine cal_of_go (own := RX12) rfl (by decide +kernel) (Nat.le_of_ble_eq_true rfl) ?_
  refine go_aload_n (i := 0) (pc := 0) dX12_refuse_0 rfl rfl ?_
  refine go_iconst (nI 1) (pc := 1) dX12_refuse_1 (by decide) ?_
  refine go_puti fp_X12_97 (pc := 2) dX12_refuse_2 (by rfl) rfl rfl ?_
  refine go_iconst (nI 0) (pc := 5) dX12_refuse_5 (by decide) ?_
  refine go_ireturn (pc := 6) dX12_refuse_6 rfl ?_
  exact ⟨rfl, rfl⟩

