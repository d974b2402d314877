theorem fk_J0_9 : Cond.fieldLink RJ0 9 "java/lang/String" "value" "[B" ∈ zG := zg8 94 rfl rfl
theorem fk_J0_15 : Cond.fieldLink RJ0 15 "java/lang/String" "coder" "B" ∈ zG := zg8 95 rfl rfl
theorem fk_J0_38 : Cond.fieldLink RJ0 38 "java/lang/String" "COMPACT_STRINGS" "Z" ∈ zG := zg6 89 rfl rfl
theorem fk_J0_1053 : Cond.fieldLink RJ0 1053 "jdk/internal/util/Preconditions" "SIOOBE_FORMATTER" "Ljava/util/function/BiFunction;" ∈ zG := zg6 105 rfl rfl
def zlen (i : Nat) : Nat := zLen.getD i 0
def zbyt (i j : Nat) : Nat := ((zByt.getD i []).getD j 0).toInt.toNat
theorem zlen_b : ∀ i, i < 8 → zlen i < 13 := by decide
theorem zbyt_b : ∀ i, i < 8 → ∀ j, j < zlen i → (zByt.getD i []).getD j 0 = nI (zbyt i j) ∧ zbyt i j < 128 := by decide +kernel
theorem tb_and : ∀ v, v < 128 → nI v &&& nI 255 = nI v := by decide +kernel
theorem tb_chr : ∀ v, v < 128 → ((nI v).toUInt32 % 65536).toInt32 = nI v := by decide +kernel
theorem c_J0_coder_7d493 {E : zE} {σ : zT} {i : Nat} (hi : i < 8) : CalM E 0 yJ0_coder_7d493 cJ0_coder_7d493 1 (some .byte) [.ref (zKs E i)] σ (fun r σ' => r = some (.int (nI 0)) ∧ σ' = σ) := by
  refine cal_of_go (own := RJ0) rfl (by decide +kernel) (Nat.le_of_ble_eq_true rfl) ?_
  refine go_tcom fk_J0_38 (pc := 0) dJ0_coder_7d493_0 ?_
  refine go_if_eq 13 (pc := 3) dJ0_coder_7d493_3 (by decide) (fun h3 => ?_) (fun h3 => ?_)
  · exact absurd h3 (by decide)
  · refine go_aload_n (i := 0) (pc := 6) dJ0_coder_7d493_6 rfl rfl ?_
    refine go_tcod i hi fk_J0_15 (pc := 7) dJ0_coder_7d493_7 ?_
    refine go_goto 14 (pc := 10) dJ0_coder_7d493_10 (by decide) ?_
    refine go_creturn _ (pc := 14) dJ0_coder_7d493_14 rfl (by rfl) ?_
    exact ⟨rfl, rfl⟩

theorem c_J0_length_8abf5 {E : zE} {σ : zT} {i : Nat} (hi : i < 8) : CalM E 1 yJ0_length_8abf5 cJ0_length_8abf5 1 (some .int) [.ref (zKs E i)] σ (fun r σ' => r = some (.int (nI (zlen i))) ∧ σ' = σ) := by
  refine cal_of_go (own := RJ0) rfl (by decide +kernel) (Nat.le_of_ble_eq_true rfl) ?_
  refine go_aload_n (i := 0) (pc := 0) dJ0_length_8abf5_0 rfl rfl ?_
  refine go_tval i hi fk_J0_9 (pc := 1) dJ0_length_8abf5_1 ?_
  refine go_tlen i hi (pc := 4) dJ0_length_8abf5_4 ?_
  refine go_aload_n (i := 0) (pc := 5) dJ0_length_8abf5_5 rfl rfl ?_
  refine go_callT i hi ml_J0_335 mt_J0_coder_7d493 (pc := 6) dJ0_length_8abf5_6 (c_J0_coder_7d493 hi) rfl (by decide) (by decide) rfl rfl (Nat.le_of_ble_eq_true rfl) (fun r σ' hp => ?_)
  obtain ⟨rfl, hσ⟩ := hp
  rw [hσ]
  clear hσ σ'
  dsimp only [zRet]
  refine go_ishr (pc := 9) dJ0_length_8abf5_9 ?_
  rw [show nI (zLen.getD i 0) >>> (nI 0 &&& 31) = nI (zlen i) from (by decide : ∀ i, i < 8 → nI (zLen.getD i 0) >>> (nI 0 &&& 31) = nI (zlen i)) i hi]
  refine go_ireturn (pc := 10) dJ0_length_8abf5_10 rfl ?_
  exact ⟨rfl, rfl⟩

theorem c_J0_isLatin1_aae02 {E : zE} {σ : zT} {i : Nat} (hi : i < 8) : CalM E 0 yJ0_isLatin1_aae02 cJ0_isLatin1_aae02 1 (some .boolean) [.ref (zKs E i)] σ (fun r σ' => r = some (.int (nI 1)) ∧ σ' = σ) := by
  refine cal_of_go (own := RJ0) rfl (by decide +kernel) (Nat.le_of_ble_eq_true rfl) ?_
  refine go_tcom fk_J0_38 (pc := 0) dJ0_isLatin1_aae02_0 ?_
  refine go_if_eq 17 (pc := 3) dJ0_isLatin1_aae02_3 (by decide) (fun h3 => ?_) (fun h3 => ?_)
  · exact absurd h3 (by decide)
  · refine go_aload_n (i := 0) (pc := 6) dJ0_isLatin1_aae02_6 rfl rfl ?_
    refine go_tcod i hi fk_J0_15 (pc := 7) dJ0_isLatin1_aae02_7 ?_
    refine go_if_ne 17 (pc := 10) dJ0_isLatin1_aae02_10 (by decide) (fun h10 => ?_) (fun h10 => ?_)
    · exact absurd rfl h10
    · refine go_iconst (nI 1) (pc := 13) dJ0_isLatin1_aae02_13 (by decide) ?_
      refine go_goto 18 (pc := 14) dJ0_isLatin1_aae02_14 (by decide) ?_
      refine go_zreturn (pc := 18) dJ0_isLatin1_aae02_18 rfl (by first | rfl | (apply zb_nar)) ?_
      exact ⟨rfl, rfl⟩

theorem c_J3_checkIndex0 {E : zE} {σ : zT} {j n : Nat} (hj : j < n) (hn : n < 2 ^ 31) : CalM E 0 yJ3_checkIndex_8e157 cJ3_checkIndex_8e157 3 (some .int) [.int (nI j), .int (nI n), .null] σ (fun r σ' => r = some (.int (nI j)) ∧ σ' = σ) := by
  refine cal_of_go (own := RJ3) rfl (by decide +kernel) (Nat.le_of_ble_eq_true rfl) ?_
  refine go_iload_n (i := 0) (pc := 0) dJ3_checkIndex_8e157_0 rfl rfl ?_
  refine go_if_lt 9 (pc := 1) dJ3_checkIndex_8e157_1 (by decide) (fun h1 => ?_) (fun h1 => ?_)
  · first | rw [zb_0d] at h1 | rw [zn_lt0 (by omega)] at h1 | rw [zi_lt0] at h1
    exact h1.elim
  · first | rw [zb_0d] at h1 | rw [zn_lt0 (by omega)] at h1 | rw [zi_lt0] at h1
    refine go_iload_n (i := 0) (pc := 4) dJ3_checkIndex_8e157_4 rfl rfl ?_
    refine go_iload_n (i := 1) (pc := 5) dJ3_checkIndex_8e157_5 rfl rfl ?_
    refine go_icmp_lt 16 (pc := 6) dJ3_checkIndex_8e157_6 (by decide) (fun h6 => ?_) (fun h6 => ?_)
    · first | rw [nI_ltI (by omega) (by omega)] at h6 | rw [zi_ltN (by omega)] at h6 | rw [zi_Nlt (by omega)] at h6 | rw [zi_lt] at h6
      refine go_iload_n (i := 0) (pc := 16) dJ3_checkIndex_8e157_16 rfl rfl ?_
      refine go_ireturn (pc := 17) dJ3_checkIndex_8e157_17 rfl ?_
      exact ⟨rfl, rfl⟩
    · first | rw [nI_ltI (by omega) (by omega)] at h6 | rw [zi_ltN (by omega)] at h6 | rw [zi_Nlt (by omega)] at h6 | rw [zi_lt] at h6
      omega

theorem c_J3_checkIndex1 {E : zE} {σ : zT} {j n : Nat} {t : Nat} (hj : j < n) (hn : n < 2 ^ 31) : CalM E 0 yJ3_checkIndex_8e157 cJ3_checkIndex_8e157 3 (some .int) [.int (nI j), .int (nI n), .ref t] σ (fun r σ' => r = some (.int (nI j)) ∧ σ' = σ) := by
  refine cal_of_go (own := RJ3) rfl (by decide +kernel) (Nat.le_of_ble_eq_true rfl) ?_
  refine go_iload_n (i := 0) (pc := 0) dJ3_checkIndex_8e157_0 rfl rfl ?_
  refine go_if_lt 9 (pc := 1) dJ3_checkIndex_8e157_1 (by decide) (fun h1 => ?_) (fun h1 => ?_)
  · first | rw [zb_0d] at h1 | rw [zn_lt0 (by omega)] at h1 | rw [zi_lt0] at h1
    exact h1.elim
  · first | rw [zb_0d] at h1 | rw [zn_lt0 (by omega)] at h1 | rw [zi_lt0] at h1
    refine go_iload_n (i := 0) (pc := 4) dJ3_checkIndex_8e157_4 rfl rfl ?_
    refine go_iload_n (i := 1) (pc := 5) dJ3_checkIndex_8e157_5 rfl rfl ?_
    refine go_icmp_lt 16 (pc := 6) dJ3_checkIndex_8e157_6 (by decide) (fun h6 => ?_) (fun h6 => ?_)
    · first | rw [nI_ltI (by omega) (by omega)] at h6 | rw [zi_ltN (by omega)] at h6 | rw [zi_Nlt (by omega)] at h6 | rw [zi_lt] at h6
      refine go_iload_n (i := 0) (pc := 16) dJ3_checkIndex_8e157_16 rfl rfl ?_
      refine go_ireturn (pc := 17) dJ3_checkIndex_8e157_17 rfl ?_
      exact ⟨rfl, rfl⟩
    · first | rw [nI_ltI (by omega) (by omega)] at h6 | rw [zi_ltN (by omega)] at h6 | rw [zi_Nlt (by omega)] at h6 | rw [zi_lt] at h6
      omega

theorem c_J0_checkIndex_df160 {E : zE} {σ : zT} {j n : Nat} (hj : j < n) (hn : n < 2 ^ 31) : CalM E 1 yJ0_checkIndex_df160 cJ0_checkIndex_df160 2 none [.int (nI j), .int (nI n)] σ (fun r σ' => r = none ∧ σ' = σ) := by
  refine cal_of_go (own := RJ0) rfl (by decide +kernel) (Nat.le_of_ble_eq_true rfl) ?_
  refine go_iload_n (i := 0) (pc := 0) dJ0_checkIndex_df160_0 rfl rfl ?_
  refine go_iload_n (i := 1) (pc := 1) dJ0_checkIndex_df160_1 rfl rfl ?_
  refine go_tfmt fk_J0_1053 (pc := 2) dJ0_checkIndex_df160_2 ?_ (fun t => ?_)
  · refine go_callS ml_J0_1059 mt_J3_checkIndex_8e157 (pc := 5) dJ0_checkIndex_df160_5 (c_J3_checkIndex0 hj hn) (by decide) (by decide) rfl rfl (Nat.le_of_ble_eq_true rfl) (fun r σ' hp => ?_)
    obtain ⟨rfl, hσ⟩ := hp
    rw [hσ]
    clear hσ σ'
    dsimp only [zRet]
    refine go_pop (pc := 8) dJ0_checkIndex_df160_8 rfl ?_
    refine go_return (pc := 9) dJ0_checkIndex_df160_9 rfl ?_
    exact ⟨rfl, rfl⟩
  · refine go_callS ml_J0_1059 mt_J3_checkIndex_8e157 (pc := 5) dJ0_checkIndex_df160_5 (c_J3_checkIndex1 hj hn) (by decide) (by decide) rfl rfl (Nat.le_of_ble_eq_true rfl) (fun r σ' hp => ?_)
    obtain ⟨rfl, hσ⟩ := hp
    rw [hσ]
    clear hσ σ'
    dsimp only [zRet]
    refine go_pop (pc := 8) dJ0_checkIndex_df160_8 rfl ?_
    refine go_return (pc := 9) dJ0_checkIndex_df160_9 rfl ?_
    exact ⟨rfl, rfl⟩

theorem tb_nar : ∀ v, v < 128 → narrow .char (.int (nI v)) = .int (nI v) := by decide +kernel
theorem c_J1_charAt_3b067 {E : zE} {σ : zT} {i j : Nat} (hi : i < 8) (hj : j < zlen i) : CalM E 2 yJ1_charAt_3b067 cJ1_charAt_3b067 2 (some .char) [.ref (zVs E i), .int (nI j)] σ (fun r σ' => r = some (.int (nI (zbyt i j))) ∧ σ' = σ) := by
  refine cal_of_go (own := RJ1) rfl (by decide +kernel) (Nat.le_of_ble_eq_true rfl) ?_
  have hb := zlen_b i hi
  obtain ⟨hb1, hb2⟩ := zbyt_b i hi j hj
  refine go_iload_n (i := 1) (pc := 0) dJ1_charAt_3b067_0 rfl rfl ?_
  refine go_aload_n (i := 0) (pc := 1) dJ1_charAt_3b067_1 rfl rfl ?_
  refine go_tlen i hi (pc := 2) dJ1_charAt_3b067_2 ?_
  change GoM _ _ _ _ _ _ _ _ _ _ (.int (nI (zlen i)) :: _)
  refine go_callS ml_J1_9 mt_J0_checkIndex_df160 (pc := 3) dJ1_charAt_3b067_3 (c_J0_checkIndex_df160 hj (by omega)) (by decide) (by decide) rfl rfl (Nat.le_of_ble_eq_true rfl) (fun r σ' hp => ?_)
  obtain ⟨rfl, hσ⟩ := hp
  rw [hσ]
  clear hσ σ'
  dsimp only [zRet]
  refine go_aload_n (i := 0) (pc := 6) dJ1_charAt_3b067_6 rfl rfl ?_
  refine go_iload_n (i := 1) (pc := 7) dJ1_charAt_3b067_7 rfl rfl ?_
  refine go_tbyt i j hi rfl hj (by show zlen i < _; omega) (pc := 8) dJ1_charAt_3b067_8 ?_
  rw [hb1]
  refine go_sipush (nI 255) (pc := 9) dJ1_charAt_3b067_9 (by decide) ?_
  refine go_iand (pc := 12) dJ1_charAt_3b067_12 ?_
  rw [tb_and _ hb2]
  refine go_i2c (pc := 13) dJ1_charAt_3b067_13 ?_
  rw [tb_chr _ hb2]
  refine go_creturn _ (pc := 14) dJ1_charAt_3b067_14 rfl (tb_nar _ hb2) ?_
  exact ⟨rfl, rfl⟩

theorem c_J0_charAt_5068e {E : zE} {σ : zT} {i j : Nat} (hi : i < 8) (hj : j < zlen i) : CalM E 3 yJ0_charAt_5068e cJ0_charAt_5068e 2 (some .char) [.ref (zKs E i), .int (nI j)] σ (fun r σ' => r = some (.int (nI (zbyt i j))) ∧ σ' = σ) := by
  refine cal_of_go (own := RJ0) rfl (by decide +kernel) (Nat.le_of_ble_eq_true rfl) ?_
  have hb2 := (zbyt_b i hi j hj).2
  refine go_aload_n (i := 0) (pc := 0) dJ0_charAt_5068e_0 rfl rfl ?_
  refine go_callT i hi ml_J0_492 mt_J0_isLatin1_aae02 (pc := 1) dJ0_charAt_5068e_1 (c_J0_isLatin1_aae02 hi) rfl (by decide) (by decide) rfl rfl (Nat.le_of_ble_eq_true rfl) (fun r σ' hp => ?_)
  obtain ⟨rfl, hσ⟩ := hp
  rw [hσ]
  clear hσ σ'
  dsimp only [zRet]
  refine go_if_eq 16 (pc := 4) dJ0_charAt_5068e_4 (by decide) (fun h4 => ?_) (fun h4 => ?_)
  · exact absurd h4 (by decide)
  · refine go_aload_n (i := 0) (pc := 7) dJ0_charAt_5068e_7 rfl rfl ?_
    refine go_tval i hi fk_J0_9 (pc := 8) dJ0_charAt_5068e_8 ?_
    refine go_iload_n (i := 1) (pc := 11) dJ0_charAt_5068e_11 rfl rfl ?_
    refine go_callS ml_J0_495 mt_J1_charAt_3b067 (pc := 12) dJ0_charAt_5068e_12 (c_J1_charAt_3b067 hi hj) (by decide) (by decide) rfl rfl (Nat.le_of_ble_eq_true rfl) (fun r σ' hp => ?_)
    obtain ⟨rfl, hσ⟩ := hp
    rw [hσ]
    clear hσ σ'
    dsimp only [zRet]
    refine go_creturn _ (pc := 15) dJ0_charAt_5068e_15 rfl (tb_nar _ hb2) ?_
    exact ⟨rfl, rfl⟩

