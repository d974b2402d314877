theorem rew_w {V : zV} {ρ : Nat → Nat} {c : Nat} (hV : VOK V) (hok : RowOK (vN V) ρ) (hc : c < vC V) : (if (nI 0).toInt < (wI V ρ c).toInt then wI V ρ c else nI 0) = nI (rew V ρ c) := by
  have hl := (hV.2.2.2.1 c hc).2.2
  unfold wI rew
  cases he : easy V ρ c with
  | none => rfl
  | some q =>
    obtain ⟨m, x⟩ := q
    have h2 := (saf_lt hV hok he).2
    have hb := gain_b (V := V) (c := c) hl hok.2.2.2.2.1 hok.2.2.2.2.2.1
    dsimp only
    have e : (gI V ρ c - nI x).toInt = gain V ρ c - x := by rw [Int32.toInt_sub, nI_toInt (by omega), gI_toInt hl hok.2.2.2.2.1 hok.2.2.2.2.2.1, Int.bmod_eq_of_le (by omega) (by omega)]
    rw [e, z00]
    by_cases h : (x : Int) < gain V ρ c
    · rw [if_pos (by omega), if_pos h, zi_eq, e, nI_toInt (by omega)]; omega
    · rw [if_neg (by omega), if_neg h]

theorem c_X12_rewardOf {E : zE} {σ : zT} {V : zV} {ρ : Nat → Nat} {c : Nat} (hE : EnvR σ V) (hw : RwIs σ 7 ρ) (hok : RowOK (vN V) ρ) (hc : c < vC V) : CalM E 7 yX12_rewardOf cX12_rewardOf 2 (some .int) [.ref (zA E 33 0), .int (nI c)] σ (fun r σ' => r = some (.int (nI (rew V ρ c))) ∧ Fr9 [27, 28] [13, 14] σ σ') := by
  refine cal_of_go (own := RX12) rfl (by decide +kernel) (Nat.le_of_ble_eq_true rfl) ?_
  refine go_iconst (nI 0) (pc := 0) dX12_rewardOf_0 (by decide) ?_
  refine go_aload_n (i := 0) (pc := 1) dX12_rewardOf_1 rfl rfl ?_
  refine go_aload_n (i := 0) (pc := 2) dX12_rewardOf_2 rfl rfl ?_
  refine go_getr2 fl_X12_36 (pc := 3) dX12_rewardOf_3 (by rfl) (by rfl) (by rfl) ?_
  refine go_iload_n (i := 1) (pc := 6) dX12_rewardOf_6 rfl rfl ?_
  refine go_callV ml_X12_289 mt_X12_worthOf (pc := 7) dX12_rewardOf_7 (c_X12_worthOf (j := 7) hE hw hok rfl hc) (by rfl) rfl (by rfl) (by decide) (by decide) rfl rfl (Nat.le_of_ble_eq_true rfl) (fun r σ' hp => ?_)
  obtain ⟨rfl, -, -, hF⟩ := hp
  dsimp only [zRet]
  refine go_callS ml_X12_244 mt_J9_max_7cf53 (pc := 10) dX12_rewardOf_10 (c_J9_max_7cf53) (by decide) (by decide) rfl rfl (Nat.le_of_ble_eq_true rfl) (fun r σ' hp => ?_)
  obtain ⟨rfl, hσ⟩ := hp
  rw [hσ]
  clear hσ
  dsimp only [zRet]
  rw [rew_w (hE.vok hok) hok hc]
  refine go_ireturn (pc := 13) dX12_rewardOf_13 rfl ?_
  exact ⟨rfl, hF⟩

theorem c_X12_reward {E : zE} {σ : zT} {tx : Nat × (Nat → Nat)} {bd : Nat × (Nat → Nat) × (Nat → Nat)} {sk : Nat × (Nat → Nat)} {tw : Nat × (Nat → Nat) × (Nat → Nat)} {xs : List Nat} {ld : Nat × (Nat → Nat)} {pa sh : Nat × (Nat → Nat → Nat)} {ru : Nat × (Nat → Nat) × (Nat → Nat)} {to : Nat × (Nat → Int64)} {c : Int32} (hC : RefIs σ tx bd sk tw xs ld pa sh ru to) : CalM E 8 yX12_reward cX12_reward 2 (some .int) [.ref (zA E 33 0), .int c] σ (fun r σ' => r = some (.int (if inB c bd.1 then nI (rew (vOf bd sk xs ld.1) ld.2 c.toInt.toNat) else -1)) ∧ RefIs σ' tx bd sk tw xs ld pa sh ru to ∧ FrG [33] σ σ') := by
  refine cal_of_go (own := RX12) rfl (by decide +kernel) (Nat.le_of_ble_eq_true rfl) ?_
  refine go_aload_n (i := 0) (pc := 0) dX12_reward_0 rfl rfl ?_
  refine go_iconst (nI 0) (pc := 1) dX12_reward_1 (by decide) ?_
  refine go_puti fp_X12_97 (pc := 2) dX12_reward_2 (by rfl) rfl rfl ?_
  have hF : Fr9 [0, 27, 28] [13, 14, 16, 8] σ (uS σ 33 0 (nI 0)) := Fr9.rf.uS (by simp)
  have hC0 := hC.fr hF (by decide) (by decide)
  have hc8 := hC0.2.2.1.1
  refine go_aload_n (i := 0) (pc := 5) dX12_reward_5 rfl rfl ?_
  refine go_iload_n (i := 1) (pc := 6) dX12_reward_6 rfl rfl ?_
  refine go_callV ml_X12_284 mt_X12_isCarrier (pc := 7) dX12_reward_7 (c_X12_isCarrier hC0.2.2.1.2.1 (by omega)) (by rfl) rfl (by rfl) (by decide) (by decide) rfl rfl (Nat.le_of_ble_eq_true rfl) (fun r σ' hp => ?_)
  obtain ⟨rfl, hσ⟩ := hp
  rw [hσ]
  clear hσ σ'
  dsimp only [zRet]
  refine go_if_eq 21 (pc := 10) dX12_reward_10 (by decide) (fun h10 => ?_) (fun h10 => ?_)
  · first | rw [zb_0d] at h10 | rw [zn_eq0 (by omega)] at h10 | rw [zi_eq0] at h10
    refine go_iconst (-1) (pc := 21) dX12_reward_21 (by decide) ?_
    refine go_ireturn (pc := 22) dX12_reward_22 rfl ?_
    first
      | (have _ := kA
         exact ⟨rfl, hC.fr hF (by decide) (by decide), hF.1⟩)
      | (rw [if_neg (by omega)]
         exact ⟨rfl, hC.fr hF (by decide) (by decide), hF.1⟩)
  · first | rw [zb_0d] at h10 | rw [zn_eq0 (by omega)] at h10 | rw [zi_eq0] at h10
    rw [if_pos (by omega)]
    have hcn : c.toInt < (bd.1 : Int) := by omega
    have ec1 := nI_of' (x := c) (by omega)
    generalize hqc1 : c.toInt.toNat = c1 at ec1 ⊢
    subst ec1
    have hc : c1 < vC (vOf bd sk xs ld.1) := by show c1 < bd.1; omega
    refine go_aload_n (i := 0) (pc := 13) dX12_reward_13 rfl rfl ?_
    refine go_iload_n (i := 1) (pc := 14) dX12_reward_14 rfl rfl ?_
    refine go_callV ml_X12_394 mt_X12_rewardOf (pc := 15) dX12_reward_15 (c_X12_rewardOf (V := (vOf bd sk xs ld.1)) hC0.env hC0.2.2.2.2.2.1.2.2 hC0.2.2.2.2.2.1.2.1 hc) (by rfl) rfl (by rfl) (by decide) (by decide) rfl rfl (Nat.le_of_ble_eq_true rfl) (fun r σ' hp => ?_)
    obtain ⟨rfl, hFd⟩ := hp
    dsimp only [zRet]
    have hF := hF.tr (hFd.mono (by simp) (by simp))
    have kA := trivial
    refine go_goto 22 (pc := 18) dX12_reward_18 (by decide) ?_
    refine go_ireturn (pc := 22) dX12_reward_22 rfl ?_
    first
      | (have _ := kA
         exact ⟨rfl, hC.fr hF (by decide) (by decide), hF.1⟩)
      | (rw [if_neg (by omega)]
         exact ⟨rfl, hC.fr hF (by decide) (by decide), hF.1⟩)

theorem c_X12_costOf {E : zE} {σ : zT} {V : zV} {ρ : Nat → Nat} {b : Nat} (hE : EnvR σ V) (hw : RwIs σ 7 ρ) (hok : RowOK (vN V) ρ) (hb : b < 2 ^ 12) : CalM E 8 yX12_costOf cX12_costOf 4 (some .int) [.ref (zA E 33 0), .int (nI b)] σ (fun r σ' => r = some (.int (nI (cns V ρ b (vC V)))) ∧ Fr9 [27, 28] [13, 14] σ σ') := by
  refine cal_of_go (own := RX12) rfl (by decide +kernel) (Nat.le_of_ble_eq_true rfl) ?_
  have hc8 := hE.2.1.1
  have hV := hE.vok hok
  have loop : ∀ (i : Nat) (τ : zT), i ≤ vC V → (Fr9 [27, 28] [13, 14] σ τ) → GoM E 8 RX12 cX12_costOf 4 (some .int) (fun r σ' => r = some (.int (nI (cns V ρ b (vC V)))) ∧ Fr9 [27, 28] [13, 14] σ σ') τ 4 [(0, .ref (zA E 33 0)), (1, .int (nI b)), (2, .int (nI (sumN i (fun c => if b.testBit c then rew V ρ c else 0)))), (3, .int (nI i))] [] := by
    intro i
    induction hz : vC V - i using Nat.strongRecOn generalizing i with
    | ind z ih =>
      intro τ hi hF
      have hEt := hE.fr hF (by decide) (by decide)
      refine go_iload_n (i := 3) (pc := 4) dX12_costOf_4 rfl rfl ?_
      refine go_aload_n (i := 0) (pc := 5) dX12_costOf_5 rfl rfl ?_
      refine go_geti fl_X12_111 (pc := 6) dX12_costOf_6 (by rfl) ?_
      rw [hEt.2.1.2.1]
      refine go_icmp_ge 38 (pc := 9) dX12_costOf_9 (by decide) (fun h9 => ?_) (fun h9 => ?_)
      · first | rw [nI_leI (by omega) (by omega)] at h9 | rw [zi_leN (by omega)] at h9 | rw [zi_Nle (by omega)] at h9 | rw [zi_le] at h9
        have e : i = vC V := by omega
        subst e
        refine go_iload_n (i := 2) (pc := 38) dX12_costOf_38 rfl rfl ?_
        refine go_ireturn (pc := 39) dX12_costOf_39 rfl ?_
        exact ⟨rfl, hF⟩
      · first | rw [nI_leI (by omega) (by omega)] at h9 | rw [zi_leN (by omega)] at h9 | rw [zi_Nle (by omega)] at h9 | rw [zi_le] at h9
        refine go_iload_n (i := 2) (pc := 12) dX12_costOf_12 rfl rfl ?_
        refine go_iload_n (i := 1) (pc := 13) dX12_costOf_13 rfl rfl ?_
        refine go_iload_n (i := 3) (pc := 14) dX12_costOf_14 rfl rfl ?_
        refine go_callS ml_X12_114 mt_X12_has (pc := 15) dX12_costOf_15 (c_X12_has hb (by omega)) (by decide) (by decide) rfl rfl (Nat.le_of_ble_eq_true rfl) (fun r σ' hp => ?_)
        obtain ⟨rfl, hσ⟩ := hp
        rw [hσ]
        clear hσ
        dsimp only [zRet]
        refine go_if_eq 29 (pc := 18) dX12_costOf_18 (by decide) (fun h18 => ?_) (fun h18 => ?_)
        · rw [zb_0] at h18
          have es : sumN (i + 1) (fun c => if b.testBit c then rew V ρ c else 0) = sumN i (fun c => if b.testBit c then rew V ρ c else 0) + 0 := by rw [sumN, if_neg (by rw [h18]; decide)]
          refine go_iconst (nI 0) (pc := 29) dX12_costOf_29 (by decide) ?_
          first | with_reducible refine go_iaddN (pc := 30) dX12_costOf_30 ?_ | refine go_iadd (pc := 30) dX12_costOf_30 ?_
          refine go_istore_n (i := 2) (pc := 31) dX12_costOf_31 rfl (by decide) ?_
          refine go_iincN (pc := 32) dX12_costOf_32 rfl (by decide) ?_
          refine go_goto 4 (pc := 35) dX12_costOf_35 (by decide) ?_
          rw [← es]
          exact ih (vC V - (i + 1)) (by omega) (i + 1) rfl _ (by omega) hF
        · rw [zb_0] at h18
          have es : sumN (i + 1) (fun c => if b.testBit c then rew V ρ c else 0) = sumN i (fun c => if b.testBit c then rew V ρ c else 0) + rew V ρ i := by rw [sumN, if_pos (by simpa using h18)]
          refine go_aload_n (i := 0) (pc := 21) dX12_costOf_21 rfl rfl ?_
          refine go_iload_n (i := 3) (pc := 22) dX12_costOf_22 rfl rfl ?_
          refine go_callV ml_X12_394 mt_X12_rewardOf (pc := 23) dX12_costOf_23 (c_X12_rewardOf hEt (hw.fr hF (by decide)) hok (by omega)) (by rfl) rfl (by rfl) (by decide) (by decide) rfl rfl (Nat.le_of_ble_eq_true rfl) (fun r σ' hp => ?_)
          obtain ⟨rfl, hFd⟩ := hp
          dsimp only [zRet]
          have hF := hF.tr hFd
          refine go_goto 30 (pc := 26) dX12_costOf_26 (by decide) ?_
          first | with_reducible refine go_iaddN (pc := 30) dX12_costOf_30 ?_ | refine go_iadd (pc := 30) dX12_costOf_30 ?_
          refine go_istore_n (i := 2) (pc := 31) dX12_costOf_31 rfl (by decide) ?_
          refine go_iincN (pc := 32) dX12_costOf_32 rfl (by decide) ?_
          refine go_goto 4 (pc := 35) dX12_costOf_35 (by decide) ?_
          rw [← es]
          exact ih (vC V - (i + 1)) (by omega) (i + 1) rfl _ (by omega) hF
  refine go_iconst (nI 0) (pc := 0) dX12_costOf_0 (by decide) ?_
  refine go_istore_n (i := 2) (pc := 1) dX12_costOf_1 rfl (by decide) ?_
  refine go_iconst (nI 0) (pc := 2) dX12_costOf_2 (by decide) ?_
  refine go_istore_n (i := 3) (pc := 3) dX12_costOf_3 rfl (by decide) ?_
  exact loop 0 σ (by omega) Fr9.rf

theorem payL_y {V : zV} {ρ : Nat → Nat} {v s : Nat} (h : cns V ρ s (vC V) ≤ v) (h2 : (crsA V s ρ).2.1 < (payL V ρ v s).1 ∨ ((crsA V s ρ).2.1 = (payL V ρ v s).1 ∧ cns V ρ s (vC V) < (payL V ρ v s).2.1)) : payL V ρ v (s + 1) = ((crsA V s ρ).2.1, cns V ρ s (vC V), s) := by rw [payL, if_pos ⟨h, h2⟩]
theorem payL_n {V : zV} {ρ : Nat → Nat} {v s : Nat} (h : ¬ (cns V ρ s (vC V) ≤ v ∧ ((crsA V s ρ).2.1 < (payL V ρ v s).1 ∨ ((crsA V s ρ).2.1 = (payL V ρ v s).1 ∧ cns V ρ s (vC V) < (payL V ρ v s).2.1)))) : payL V ρ v (s + 1) = payL V ρ v s := by rw [payL, if_neg h]

theorem c_X12_pays {E : zE} {σ : zT} {tx : Nat × (Nat → Nat)} {bd : Nat × (Nat → Nat) × (Nat → Nat)} {sk : Nat × (Nat → Nat)} {tw : Nat × (Nat → Nat) × (Nat → Nat)} {xs : List Nat} {ld : Nat × (Nat → Nat)} {pa sh : Nat × (Nat → Nat → Nat)} {ru : Nat × (Nat → Nat) × (Nat → Nat)} {to : Nat × (Nat → Int64)} {v : Int32} (hC : RefIs σ tx bd sk tw xs ld pa sh ru to) (hro : Roomy ld.2) : CalM E 10 yX12_pays cX12_pays 8 (some .int) [.ref (zA E 33 0), .int v] σ (fun r σ' => r = some (.int (if in0 v 999 then nI (payL (vOf bd sk xs ld.1) ld.2 v.toInt.toNat (2 ^ bd.1)).1 else -1)) ∧ RefIs σ' tx bd sk tw xs ld pa sh ru (if in0 v 999 then (2, ln2 (lN (payL (vOf bd sk xs ld.1) ld.2 v.toInt.toNat (2 ^ bd.1)).2.2) (lN (payL (vOf bd sk xs ld.1) ld.2 v.toInt.toNat (2 ^ bd.1)).2.1)) else to) ∧ FrG [33] σ σ') := by
  refine cal_of_go (own := RX12) rfl (by decide +kernel) (Nat.le_of_ble_eq_true rfl) ?_
  have hN := hC.2.2.2.2.2.1
  have hn : 1 ≤ ld.1 ∧ ld.1 ≤ 12 := ⟨hN.2.1.1, hN.2.1.2.1⟩
  have hV := hC.env.vok hN.2.1
  have hok := hN.2.1
  have hB := hC.2.2.1
  have hc8 := hB.1
  have hp8 : 2 ^ bd.1 ≤ 2 ^ 8 := Nat.pow_le_pow_right (by decide) hc8
  have hl72 : ∀ s, (crsA (vOf bd sk xs ld.1) s ld.2).2.1 ≤ 72 := fun s => Nat.le_trans (crs_ok (st := s) hV hok (vC (vOf bd sk xs ld.1)) (Nat.le_refl _)).2.2.1 (Nat.mul_le_mul_left 9 hV.2.2.1)
  have hcn : ∀ s, cns (vOf bd sk xs ld.1) ld.2 s (vC (vOf bd sk xs ld.1)) ≤ 8 * 891 := fun s => Nat.le_trans (sumN_le (c := 891) (fun q hq => by
    have := rew_le (V := (vOf bd sk xs ld.1)) (ρ := ld.2) (c := q) (hV.2.2.2.1 q hq).2.2 hok.2.2.2.2.1 hok.2.2.2.2.2.1
    split <;> omega)) (Nat.mul_le_mul_right 891 hV.2.2.1)
  have main : ∀ v1 : Nat, v1 ≤ 999 → ∀ τ, Fr9 [0, 27, 28] [13, 14, 16, 8] σ τ → GoM E 10 RX12 cX12_pays 8 (some .int) (fun r σ' => r = some (.int (nI (payL (vOf bd sk xs ld.1) ld.2 v1 (2 ^ bd.1)).1)) ∧ RefIs σ' tx bd sk tw xs ld pa sh ru (2, ln2 (lN (payL (vOf bd sk xs ld.1) ld.2 v1 (2 ^ bd.1)).2.2) (lN (payL (vOf bd sk xs ld.1) ld.2 v1 (2 ^ bd.1)).2.1)) ∧ FrG [33] σ σ') τ 19 [(0, .ref (zA E 33 0)), (1, .int (nI v1))] [] := by
    intro v1 hv1
    have loop : ∀ (i : Nat) (τ : zT), i ≤ 2 ^ bd.1 → (Fr9 [0, 27, 28] [13, 14, 16, 8] σ τ) → GoM E 10 RX12 cX12_pays 8 (some .int) (fun r σ' => r = some (.int (nI (payL (vOf bd sk xs ld.1) ld.2 v1 (2 ^ bd.1)).1)) ∧ RefIs σ' tx bd sk tw xs ld pa sh ru (2, ln2 (lN (payL (vOf bd sk xs ld.1) ld.2 v1 (2 ^ bd.1)).2.2) (lN (payL (vOf bd sk xs ld.1) ld.2 v1 (2 ^ bd.1)).2.1)) ∧ FrG [33] σ σ') τ 31 [(0, .ref (zA E 33 0)), (1, .int (nI v1)), (2, .int (nI (payL (vOf bd sk xs ld.1) ld.2 v1 i).2.2)), (3, .int (nI (payL (vOf bd sk xs ld.1) ld.2 v1 i).1)), (4, .int (nI (payL (vOf bd sk xs ld.1) ld.2 v1 i).2.1)), (5, .int (nI i))] [] := by
      intro i
      induction hz : 2 ^ bd.1 - i using Nat.strongRecOn generalizing i with
      | ind z ih =>
        intro τ hi hF
        have hCt := hC.fr hF (by decide) (by decide)
        obtain ⟨b1, b2, b3⟩ := payL_b (V := (vOf bd sk xs ld.1)) (ρ := ld.2) (v := v1) (s := i) hv1 (fun t _ => hl72 t)
        have hli := hl72 i
        have hci := hcn i
        refine go_iload (pc := 31) dX12_pays_31 rfl ?_
        refine go_iconst (nI 1) (pc := 33) dX12_pays_33 (by decide) ?_
        refine go_aload_n (i := 0) (pc := 34) dX12_pays_34 rfl rfl ?_
        refine go_geti fl_X12_111 (pc := 35) dX12_pays_35 (by rfl) ?_
        rw [hCt.2.2.1.2.1]
        refine go_ishl (pc := 38) dX12_pays_38 ?_
        rw [zshlP bd.1 (by omega)]
        refine go_icmp_ge 103 (pc := 39) dX12_pays_39 (by decide) (fun h39 => ?_) (fun h39 => ?_)
        · first | rw [nI_leI (by omega) (by omega)] at h39 | rw [zi_leN (by omega)] at h39 | rw [zi_Nle (by omega)] at h39 | rw [zi_le] at h39
          have e : i = 2 ^ bd.1 := by omega
          rw [e] at b1 b2 b3 ⊢
          refine go_aload_n (i := 0) (pc := 103) dX12_pays_103 rfl rfl ?_
          refine go_iconst (nI 0) (pc := 104) dX12_pays_104 (by decide) ?_
          refine go_puti fp_X12_104 (pc := 105) dX12_pays_105 (by rfl) rfl rfl ?_
          have hFt : Fr9 [0, 1, 27, 28] [1, 13, 14, 16, 8] σ (uS τ 33 1 (nI 0)) := (hF.mono (by simp) (by simp)).uS (by simp)
          have hz1 : (uS τ 33 1 (nI 0)).1 33 1 = nI 0 := uS_s _ _ _ _
          refine go_aload_n (i := 0) (pc := 108) dX12_pays_108 rfl rfl ?_
          refine go_iload_n (i := 2) (pc := 109) dX12_pays_109 rfl rfl ?_
          refine go_i2l (pc := 110) dX12_pays_110 ?_
          rw [nI_l (by omega)]
          refine go_callV ml_X12_333 mt_X12_enters (pc := 111) dX12_pays_111 (c_tell1 hz1) (by rfl) rfl (by rfl) (by decide) (by decide) rfl rfl (Nat.le_of_ble_eq_true rfl) (fun r σ' hp => ?_)
          obtain ⟨rfl, hT1, hF1⟩ := hp
          dsimp only [zRet]
          have hFu := hFt.tr (hF1.mono (by simp) (by simp))
          refine go_aload_n (i := 0) (pc := 114) dX12_pays_114 rfl rfl ?_
          refine go_iload (pc := 115) dX12_pays_115 rfl ?_
          refine go_i2l (pc := 117) dX12_pays_117 ?_
          rw [nI_l (by omega)]
          refine go_callV ml_X12_333 mt_X12_enters (pc := 118) dX12_pays_118 (c_tell2 hT1) (by rfl) rfl (by rfl) (by decide) (by decide) rfl rfl (Nat.le_of_ble_eq_true rfl) (fun r σ' hp => ?_)
          obtain ⟨rfl, hT2, hF2⟩ := hp
          dsimp only [zRet]
          have hFv := hFu.tr (hF2.mono (by simp) (by simp))
          refine go_iload_n (i := 3) (pc := 121) dX12_pays_121 rfl rfl ?_
          refine go_ireturn (pc := 122) dX12_pays_122 rfl ?_
          exact ⟨rfl, hC.tell hFv (by decide) (by decide) hT2, hFv.1⟩
        · first | rw [nI_leI (by omega) (by omega)] at h39 | rw [zi_leN (by omega)] at h39 | rw [zi_Nle (by omega)] at h39 | rw [zi_le] at h39
          refine go_aload_n (i := 0) (pc := 42) dX12_pays_42 rfl rfl ?_
          refine go_iload (pc := 43) dX12_pays_43 rfl ?_
          refine go_callV ml_X12_399 mt_X12_costOf (pc := 45) dX12_pays_45 (c_X12_costOf (V := (vOf bd sk xs ld.1)) (b := i) hCt.env hCt.2.2.2.2.2.1.2.2 hok (by omega)) (by rfl) rfl (by rfl) (by decide) (by decide) rfl rfl (Nat.le_of_ble_eq_true rfl) (fun r σ' hp => ?_)
          obtain ⟨rfl, hFd⟩ := hp
          dsimp only [zRet]
          have hF := hF.tr (hFd.mono (by simp) (by simp))
          refine go_istore (pc := 48) dX12_pays_48 (by decide) ?_
          refine go_iload (pc := 50) dX12_pays_50 rfl ?_
          refine go_iload_n (i := 1) (pc := 52) dX12_pays_52 rfl rfl ?_
          refine go_icmp_gt 97 (pc := 53) dX12_pays_53 (by decide) (fun h53 => ?_) (fun h53 => ?_)
          · first | rw [nI_ltI (by omega) (by omega)] at h53 | rw [zi_ltN (by omega)] at h53 | rw [zi_Nlt (by omega)] at h53 | rw [zi_lt] at h53
            have es := payL_n (V := (vOf bd sk xs ld.1)) (ρ := ld.2) (v := v1) (s := i) (by omega)
            refine go_iincN (pc := 97) dX12_pays_97 rfl (by decide) ?_
            refine go_goto 31 (pc := 100) dX12_pays_100 (by decide) ?_
            refine go_drop [0, 1, 2, 3, 4, 5] rfl ?_
            have h := ih (2 ^ bd.1 - (i + 1)) (by omega) (i + 1) rfl _ (by omega) hF
            rw [es] at h
            exact h
          · first | rw [nI_ltI (by omega) (by omega)] at h53 | rw [zi_ltN (by omega)] at h53 | rw [zi_Nlt (by omega)] at h53 | rw [zi_lt] at h53
            refine go_aload_n (i := 0) (pc := 56) dX12_pays_56 rfl rfl ?_
            refine go_callV ml_X12_356 mt_X12_copies (pc := 57) dX12_pays_57 (c_X12_copies (hN.2.2.fr hF (by decide))) (by rfl) rfl (by rfl) (by decide) (by decide) rfl rfl (Nat.le_of_ble_eq_true rfl) (fun r σ' hp => ?_)
            obtain ⟨rfl, hw8, hFc⟩ := hp
            dsimp only [zRet]
            have hF := hF.tr (hFc.mono (by simp) (by simp))
            have hEc := (hC.fr hF (by decide) (by decide)).env
            refine go_aload_n (i := 0) (pc := 60) dX12_pays_60 rfl rfl ?_
            refine go_iload (pc := 61) dX12_pays_61 rfl ?_
            refine go_callV ml_X12_359 mt_X12_loadsNow (pc := 63) dX12_pays_63 (c_X12_loadsNow (V := (vOf bd sk xs ld.1)) (st := i) hEc hw8 hok (by omega) (by omega)) (by rfl) rfl (by rfl) (by decide) (by decide) rfl rfl (Nat.le_of_ble_eq_true rfl) (fun r σ' hp => ?_)
            obtain ⟨rfl, hFd⟩ := hp
            dsimp only [zRet]
            have hF := hF.tr (hFd.mono (by simp) (by simp))
            refine go_istore (pc := 66) dX12_pays_66 (by decide) ?_
            refine go_iload (pc := 68) dX12_pays_68 rfl ?_
            refine go_iload_n (i := 3) (pc := 70) dX12_pays_70 rfl rfl ?_
            refine go_icmp_lt 87 (pc := 71) dX12_pays_71 (by decide) (fun h71 => ?_) (fun h71 => ?_)
            · first | rw [nI_ltI (by omega) (by omega)] at h71 | rw [zi_ltN (by omega)] at h71 | rw [zi_Nlt (by omega)] at h71 | rw [zi_lt] at h71
              have es := payL_y (V := (vOf bd sk xs ld.1)) (ρ := ld.2) (v := v1) (s := i) (by omega) (by omega)
              refine go_iload (pc := 87) dX12_pays_87 rfl ?_
              refine go_istore_n (i := 2) (pc := 89) dX12_pays_89 rfl (by decide) ?_
              refine go_iload (pc := 90) dX12_pays_90 rfl ?_
              refine go_istore_n (i := 3) (pc := 92) dX12_pays_92 rfl (by decide) ?_
              refine go_iload (pc := 93) dX12_pays_93 rfl ?_
              refine go_istore (pc := 95) dX12_pays_95 (by decide) ?_
              refine go_iincN (pc := 97) dX12_pays_97 rfl (by decide) ?_
              refine go_goto 31 (pc := 100) dX12_pays_100 (by decide) ?_
              refine go_drop [0, 1, 2, 3, 4, 5] rfl ?_
              have h := ih (2 ^ bd.1 - (i + 1)) (by omega) (i + 1) rfl _ (by omega) hF
              rw [es] at h
              exact h
            · first | rw [nI_ltI (by omega) (by omega)] at h71 | rw [zi_ltN (by omega)] at h71 | rw [zi_Nlt (by omega)] at h71 | rw [zi_lt] at h71
              refine go_iload (pc := 74) dX12_pays_74 rfl ?_
              refine go_iload_n (i := 3) (pc := 76) dX12_pays_76 rfl rfl ?_
              refine go_icmp_ne 97 (pc := 77) dX12_pays_77 (by decide) (fun h77 => ?_) (fun h77 => ?_)
              · first | rw [nI_eq (by omega) (by omega)] at h77 | rw [zi_eqN (by omega)] at h77 | rw [zi_Neq (by omega)] at h77 | rw [zi_eq] at h77
                have es := payL_n (V := (vOf bd sk xs ld.1)) (ρ := ld.2) (v := v1) (s := i) (by omega)
                refine go_iincN (pc := 97) dX12_pays_97 rfl (by decide) ?_
                refine go_goto 31 (pc := 100) dX12_pays_100 (by decide) ?_
                refine go_drop [0, 1, 2, 3, 4, 5] rfl ?_
                have h := ih (2 ^ bd.1 - (i + 1)) (by omega) (i + 1) rfl _ (by omega) hF
                rw [es] at h
                exact h
              · first | rw [nI_eq (by omega) (by omega)] at h77 | rw [zi_eqN (by omega)] at h77 | rw [zi_Neq (by omega)] at h77 | rw [zi_eq] at h77
                refine go_iload (pc := 80) dX12_pays_80 rfl ?_
                refine go_iload (pc := 82) dX12_pays_82 rfl ?_
                refine go_icmp_ge 97 (pc := 84) dX12_pays_84 (by decide) (fun h84 => ?_) (fun h84 => ?_)
                · first | rw [nI_leI (by omega) (by omega)] at h84 | rw [zi_leN (by omega)] at h84 | rw [zi_Nle (by omega)] at h84 | rw [zi_le] at h84
                  have es := payL_n (V := (vOf bd sk xs ld.1)) (ρ := ld.2) (v := v1) (s := i) (by omega)
                  refine go_iincN (pc := 97) dX12_pays_97 rfl (by decide) ?_
                  refine go_goto 31 (pc := 100) dX12_pays_100 (by decide) ?_
                  refine go_drop [0, 1, 2, 3, 4, 5] rfl ?_
                  have h := ih (2 ^ bd.1 - (i + 1)) (by omega) (i + 1) rfl _ (by omega) hF
                  rw [es] at h
                  exact h
                · first | rw [nI_leI (by omega) (by omega)] at h84 | rw [zi_leN (by omega)] at h84 | rw [zi_Nle (by omega)] at h84 | rw [zi_le] at h84
                  have es := payL_y (V := (vOf bd sk xs ld.1)) (ρ := ld.2) (v := v1) (s := i) (by omega) (by omega)
                  refine go_iload (pc := 87) dX12_pays_87 rfl ?_
                  refine go_istore_n (i := 2) (pc := 89) dX12_pays_89 rfl (by decide) ?_
                  refine go_iload (pc := 90) dX12_pays_90 rfl ?_
                  refine go_istore_n (i := 3) (pc := 92) dX12_pays_92 rfl (by decide) ?_
                  refine go_iload (pc := 93) dX12_pays_93 rfl ?_
                  refine go_istore (pc := 95) dX12_pays_95 (by decide) ?_
                  refine go_iincN (pc := 97) dX12_pays_97 rfl (by decide) ?_
                  refine go_goto 31 (pc := 100) dX12_pays_100 (by decide) ?_
                  refine go_drop [0, 1, 2, 3, 4, 5] rfl ?_
                  have h := ih (2 ^ bd.1 - (i + 1)) (by omega) (i + 1) rfl _ (by omega) hF
                  rw [es] at h
                  exact h
    intro τ hF
    refine go_iconst (nI 0) (pc := 19) dX12_pays_19 (by decide) ?_
    refine go_istore_n (i := 2) (pc := 20) dX12_pays_20 rfl (by decide) ?_
    refine go_ldcw (nI 1000000) kc_X12_380 (pc := 21) dX12_pays_21 ?_
    refine go_istore_n (i := 3) (pc := 24) dX12_pays_24 rfl (by decide) ?_
    refine go_iconst (nI 0) (pc := 25) dX12_pays_25 (by decide) ?_
    refine go_istore (pc := 26) dX12_pays_26 (by decide) ?_
    refine go_iconst (nI 0) (pc := 28) dX12_pays_28 (by decide) ?_
    refine go_istore (pc := 29) dX12_pays_29 (by decide) ?_
    exact loop 0 τ (Nat.zero_le _) hF
  refine go_aload_n (i := 0) (pc := 0) dX12_pays_0 rfl rfl ?_
  refine go_iconst (nI 0) (pc := 1) dX12_pays_1 (by decide) ?_
  refine go_puti fp_X12_97 (pc := 2) dX12_pays_2 (by rfl) rfl rfl ?_
  have hF : Fr9 [0, 27, 28] [13, 14, 16, 8] σ (uS σ 33 0 (nI 0)) := Fr9.rf.uS (by simp)
  refine go_iload_n (i := 1) (pc := 5) dX12_pays_5 rfl rfl ?_
  refine go_i2l (pc := 6) dX12_pays_6 ?_
  refine go_lconst (lN 0) (pc := 7) dX12_pays_7 (by decide) ?_
  refine go_ldc2 (999) kc_X12_397 (pc := 8) dX12_pays_8 ?_
  refine go_callS ml_X12_107 mt_X12_in (pc := 11) dX12_pays_11 (c_in (lo := 0) (hi := 999) (by decide) (by decide)) (by decide) (by decide) rfl rfl (Nat.le_of_ble_eq_true rfl) (fun r σ' hp => ?_)
  obtain ⟨rfl, hσ⟩ := hp
  rw [hσ]
  clear hσ σ'
  dsimp only [zRet]
  refine go_if_ne 19 (pc := 14) dX12_pays_14 (by decide) (fun h14 => ?_) (fun h14 => ?_)
  · first | rw [zb_0d] at h14 | rw [zn_eq0 (by omega)] at h14 | rw [zi_eq0] at h14
    rw [if_pos (by omega), if_pos (by omega)]
    have hv9 : v.toInt ≤ 999 := by omega
    have ev1 := nI_of' (x := v) (by omega)
    generalize hqv1 : v.toInt.toNat = v1 at ev1 ⊢
    subst ev1
    exact main v1 (by omega) _ hF
  · first | rw [zb_0d] at h14 | rw [zn_eq0 (by omega)] at h14 | rw [zi_eq0] at h14
    refine go_iconst (-1) (pc := 17) dX12_pays_17 (by decide) ?_
    refine go_ireturn (pc := 18) dX12_pays_18 rfl ?_
    rw [if_neg (by omega), if_neg (by omega)]
    exact ⟨rfl, hC.fr hF (by decide) (by decide), hF.1⟩

theorem c_X12_power {E : zE} {σ : zT} {b e : Nat} (hb : b ≤ 10) (he : e ≤ 12) : CalM E 0 yX12_power cX12_power 5 (some .long) [.int (nI b), .int (nI e)] σ (fun r σ' => r = some (.long (lN (b ^ e))) ∧ σ' = σ) := by
  refine cal_of_go (own := RX12) rfl (by decide +kernel) (Nat.le_of_ble_eq_true rfl) ?_
  have loop : ∀ i : Nat, i ≤ e → GoM E 0 RX12 cX12_power 5 (some .long) (fun r σ' => r = some (.long (lN (b ^ e))) ∧ σ' = σ) σ 5 [(0, .int (nI b)), (1, .int (nI e)), (2, .long (lN (b ^ i))), (4, .int (nI i))] [] := by
    intro i
    induction hj : e - i using Nat.strongRecOn generalizing i with
    | ind z ih =>
      intro hi
      have hp := pow_b hb (show i ≤ 12 by omega)
      refine go_iload (pc := 5) dX12_power_5 rfl ?_
      refine go_iload_n (i := 1) (pc := 7) dX12_power_7 rfl rfl ?_
      refine go_icmp_ge 22 (pc := 8) dX12_power_8 (by decide) (fun h8 => ?_) (fun h8 => ?_)
      · first | rw [nI_leI (by omega) (by omega)] at h8 | rw [zi_leN (by omega)] at h8 | rw [zi_Nle (by omega)] at h8 | rw [zi_le] at h8
        have ei : i = e := by omega
        subst ei
        refine go_lload_n (i := 2) (pc := 22) dX12_power_22 rfl rfl ?_
        refine go_lreturn (pc := 23) dX12_power_23 rfl ?_
        exact ⟨rfl, rfl⟩
      · first | rw [nI_leI (by omega) (by omega)] at h8 | rw [zi_leN (by omega)] at h8 | rw [zi_Nle (by omega)] at h8 | rw [zi_le] at h8
        refine go_lload_n (i := 2) (pc := 11) dX12_power_11 rfl rfl ?_
        refine go_iload_n (i := 0) (pc := 12) dX12_power_12 rfl rfl ?_
        refine go_i2l (pc := 13) dX12_power_13 ?_
        rw [nI_l (by omega)]
        refine go_lmul (pc := 14) dX12_power_14 ?_
        rw [lN_mul, ← Nat.pow_succ]
        refine go_lstore_n (i := 2) (pc := 15) dX12_power_15 rfl (by decide) ?_
        refine go_iincN (pc := 16) dX12_power_16 rfl (by decide) ?_
        refine go_goto 5 (pc := 19) dX12_power_19 (by decide) ?_
        exact ih (e - (i + 1)) (by omega) (i + 1) rfl (by omega)
  refine go_lconst (lN 1) (pc := 0) dX12_power_0 (by decide) ?_
  refine go_lstore_n (i := 2) (pc := 1) dX12_power_1 rfl (by decide) ?_
  refine go_iconst (nI 0) (pc := 2) dX12_power_2 (by decide) ?_
  refine go_istore (pc := 3) dX12_power_3 (by decide) ?_
  exact loop 0 (by omega)

theorem c_common {E : zE} {σ : zT} : ∀ (f a b : Nat), a < 2 ^ 40 → b ≤ a → a * b < 2 ^ f → CalM E (f + 1) yX12_common cX12_common 4 (some .long) [.long (lN a), .long (lN b)] σ (fun r σ' => r = some (.long (lN (Nat.gcd a b))) ∧ σ' = σ) := by
  intro f
  induction f with
  | zero =>
    intro a b ha hab hf
    have hb0 : b = 0 := by
      rcases Nat.eq_zero_or_pos b with e | e
      · exact e
      · have := (gcd_half e hab hf).2; omega
    refine cal_of_go (own := RX12) rfl (by decide +kernel) (Nat.le_of_ble_eq_true rfl) ?_
    refine go_lload_n (i := 2) (pc := 0) dX12_common_0 rfl rfl ?_
    refine go_lconst (lN 0) (pc := 1) dX12_common_1 (by decide) ?_
    refine go_lcmp (pc := 2) dX12_common_2 ?_
    refine go_if_ne 10 (pc := 3) dX12_common_3 (by decide) (fun h3 => ?_) (fun h3 => ?_)
    · exact absurd (by rw [lg_cmp_eq, pk_lEQ (by omega) (by decide)]; exact hb0) h3
    · refine go_lload_n (i := 0) (pc := 6) dX12_common_6 rfl rfl ?_
      refine go_goto 17 (pc := 7) dX12_common_7 (by decide) ?_
      refine go_lreturn (pc := 17) dX12_common_17 rfl ?_
      exact ⟨by rw [hb0, Nat.gcd_zero_right], rfl⟩
  | succ f ih =>
    intro a b ha hab hf
    by_cases hb0 : b = 0
    · refine cal_of_go (own := RX12) rfl (by decide +kernel) (Nat.le_of_ble_eq_true rfl) ?_
      refine go_lload_n (i := 2) (pc := 0) dX12_common_0 rfl rfl ?_
      refine go_lconst (lN 0) (pc := 1) dX12_common_1 (by decide) ?_
      refine go_lcmp (pc := 2) dX12_common_2 ?_
      refine go_if_ne 10 (pc := 3) dX12_common_3 (by decide) (fun h3 => ?_) (fun h3 => ?_)
      · exact absurd (by rw [lg_cmp_eq, pk_lEQ (by omega) (by decide)]; exact hb0) h3
      · refine go_lload_n (i := 0) (pc := 6) dX12_common_6 rfl rfl ?_
        refine go_goto 17 (pc := 7) dX12_common_7 (by decide) ?_
        refine go_lreturn (pc := 17) dX12_common_17 rfl ?_
        exact ⟨by rw [hb0, Nat.gcd_zero_right], rfl⟩
    · have hbp : 0 < b := by omega
      have hm : a % b < b := Nat.mod_lt _ hbp
      have hh := (gcd_half hbp hab hf).1
      refine cal_of_go (own := RX12) rfl (by decide +kernel) (Nat.le_of_ble_eq_true rfl) ?_
      refine go_lload_n (i := 2) (pc := 0) dX12_common_0 rfl rfl ?_
      refine go_lconst (lN 0) (pc := 1) dX12_common_1 (by decide) ?_
      refine go_lcmp (pc := 2) dX12_common_2 ?_
      refine go_if_ne 10 (pc := 3) dX12_common_3 (by decide) (fun h3 => ?_) (fun h3 => ?_)
      · refine go_lload_n (i := 2) (pc := 10) dX12_common_10 rfl rfl ?_
        refine go_lload_n (i := 0) (pc := 11) dX12_common_11 rfl rfl ?_
        refine go_lload_n (i := 2) (pc := 12) dX12_common_12 rfl rfl ?_
        refine go_lrem (pc := 13) dX12_common_13 (lN_ne (by omega) (by omega)) ?_
        rw [pk_lRem (by omega) (by omega) (by omega)]
        refine go_callS ml_X12_100 mt_X12_common (pc := 14) dX12_common_14 (ih b (a % b) (by omega) (by omega) hh) (by omega) (by decide) rfl rfl (Nat.le_of_ble_eq_true rfl) (fun r σ' hp => ?_)
        obtain ⟨rfl, hσ⟩ := hp
        rw [hσ]
        clear hσ σ'
        dsimp only [zRet]
        refine go_lreturn (pc := 17) dX12_common_17 rfl ?_
        exact ⟨by rw [show Nat.gcd b (a % b) = Nat.gcd a b by rw [Nat.gcd_comm, ← Nat.gcd_rec, Nat.gcd_comm]], rfl⟩
      · rw [lg_cmp_eq, pk_lEQ (by omega) (by decide)] at h3
        exact absurd h3 hb0

theorem c_X12_common {E : zE} {σ : zT} {a b : Nat} (ha : a < 2 ^ 40) (hb : b < 2 ^ 40) : CalM E 82 yX12_common cX12_common 4 (some .long) [.long (lN a), .long (lN b)] σ (fun r σ' => r = some (.long (lN (Nat.gcd a b))) ∧ σ' = σ) := by
  by_cases hb0 : b = 0
  · refine cal_of_go (own := RX12) rfl (by decide +kernel) (Nat.le_of_ble_eq_true rfl) ?_
    refine go_lload_n (i := 2) (pc := 0) dX12_common_0 rfl rfl ?_
    refine go_lconst (lN 0) (pc := 1) dX12_common_1 (by decide) ?_
    refine go_lcmp (pc := 2) dX12_common_2 ?_
    refine go_if_ne 10 (pc := 3) dX12_common_3 (by decide) (fun h3 => ?_) (fun h3 => ?_)
    · exact absurd (by rw [lg_cmp_eq, pk_lEQ (by omega) (by decide)]; exact hb0) h3
    · refine go_lload_n (i := 0) (pc := 6) dX12_common_6 rfl rfl ?_
      refine go_goto 17 (pc := 7) dX12_common_7 (by decide) ?_
      refine go_lreturn (pc := 17) dX12_common_17 rfl ?_
      exact ⟨by rw [hb0, Nat.gcd_zero_right], rfl⟩
  · have hbp : 0 < b := by omega
    have hm : a % b < b := Nat.mod_lt _ hbp
    refine cal_of_go (own := RX12) rfl (by decide +kernel) (Nat.le_of_ble_eq_true rfl) ?_
    refine go_lload_n (i := 2) (pc := 0) dX12_common_0 rfl rfl ?_
    refine go_lconst (lN 0) (pc := 1) dX12_common_1 (by decide) ?_
    refine go_lcmp (pc := 2) dX12_common_2 ?_
    refine go_if_ne 10 (pc := 3) dX12_common_3 (by decide) (fun h3 => ?_) (fun h3 => ?_)
    · refine go_lload_n (i := 2) (pc := 10) dX12_common_10 rfl rfl ?_
      refine go_lload_n (i := 0) (pc := 11) dX12_common_11 rfl rfl ?_
      refine go_lload_n (i := 2) (pc := 12) dX12_common_12 rfl rfl ?_
      refine go_lrem (pc := 13) dX12_common_13 (lN_ne (by omega) (by omega)) ?_
      rw [pk_lRem (by omega) (by omega) (by omega)]
      refine go_callS ml_X12_100 mt_X12_common (pc := 14) dX12_common_14 (c_common 80 b (a % b) (by omega) (by omega) (Nat.lt_of_lt_of_le (Nat.mul_lt_mul'' hb (Nat.lt_trans hm hb)) (by decide))) (by decide) (by decide) rfl rfl (Nat.le_of_ble_eq_true rfl) (fun r σ' hp => ?_)
      obtain ⟨rfl, hσ⟩ := hp
      rw [hσ]
      clear hσ σ'
      dsimp only [zRet]
      refine go_lreturn (pc := 17) dX12_common_17 rfl ?_
      exact ⟨by rw [show Nat.gcd b (a % b) = Nat.gcd a b by rw [Nat.gcd_comm, ← Nat.gcd_rec, Nat.gcd_comm]], rfl⟩
    · rw [lg_cmp_eq, pk_lEQ (by omega) (by decide)] at h3
      exact absurd h3 hb0

/-- ways by which j of n are caught, as the reference counts them; its upper number -/
def wyN (n : Nat) : Nat → Nat
  | 0 => 1
  | j + 1 => wyN n j * (n - j) / (j + 1)
def rU (n k p : Nat) : Nat → Nat
  | 0 => 0
  | j + 1 => rU n k p j + if k ≤ j then wyN n j * p ^ j * (10 - p) ^ (n - j) else 0
theorem wyN_b : ∀ n : Nat, n < 11 → ∀ j : Nat, j < 12 → wyN n j ≤ 300 := by decide +kernel
theorem rU_b : ∀ n : Nat, n < 11 → ∀ k : Nat, k < 11 → ∀ p : Nat, p < 11 → rU n k p (n + 1) < 2 ^ 40 ∧ rU n k p (n + 1) = cgC n k p := by decide +kernel

theorem c_X12_caught {E : zE} {σ : zT} {tx : Nat × (Nat → Nat)} {bd : Nat × (Nat → Nat) × (Nat → Nat)} {sk : Nat × (Nat → Nat)} {tw : Nat × (Nat → Nat) × (Nat → Nat)} {xs : List Nat} {ld : Nat × (Nat → Nat)} {pa sh : Nat × (Nat → Nat → Nat)} {ru : Nat × (Nat → Nat) × (Nat → Nat)} {to : Nat × (Nat → Int64)} {n k p : Int32} (hC : RefIs σ tx bd sk tw xs ld pa sh ru to) : CalM E 83 yX12_caught cX12_caught 12 (some .int) [.ref (zA E 33 0), .int n, .int k, .int p] σ (fun r σ' => r = some (.int (if cgOK n k p then nI 0 else -1)) ∧ RefIs σ' tx bd sk tw xs ld pa sh ru (if cgOK n k p then (2, ln2 (lN (cgC n.toInt.toNat k.toInt.toNat p.toInt.toNat / Nat.gcd (cgC n.toInt.toNat k.toInt.toNat p.toInt.toNat) (10 ^ n.toInt.toNat))) (lN (10 ^ n.toInt.toNat / Nat.gcd (cgC n.toInt.toNat k.toInt.toNat p.toInt.toNat) (10 ^ n.toInt.toNat)))) else to) ∧ FrG [33] σ σ') := by
  refine cal_of_go (own := RX12) rfl (by decide +kernel) (Nat.le_of_ble_eq_true rfl) ?_
  have main : ∀ n1 k1 p1 : Nat, 1 ≤ n1 → n1 ≤ 10 → k1 ≤ 10 → p1 ≤ 10 → ∀ τ, Fr9 [0, 27, 28] [13, 14, 16, 8] σ τ → GoM E 83 RX12 cX12_caught 12 (some .int) (fun r σ' => r = some (.int (nI 0)) ∧ RefIs σ' tx bd sk tw xs ld pa sh ru (2, ln2 (lN (cgC n1 k1 p1 / Nat.gcd (cgC n1 k1 p1) (10 ^ n1))) (lN (10 ^ n1 / Nat.gcd (cgC n1 k1 p1) (10 ^ n1)))) ∧ FrG [33] σ σ') τ 43 [(0, .ref (zA E 33 0)), (1, .int (nI n1)), (2, .int (nI k1)), (3, .int (nI p1))] [] := by
    intro n1 k1 p1 hn0 hn1 hk1 hp1 τ hF
    have h10 : 0 < 10 ^ n1 := Nat.pow_pos (by decide)
    have h10b := pow_b (b := 10) (e := n1) (by decide) (by omega)
    obtain ⟨hub2, hce⟩ := rU_b n1 (by omega) k1 (by omega) p1 (by omega)
    rw [hce] at hub2
    have hg0 : 0 < Nat.gcd (cgC n1 k1 p1) (10 ^ n1) := Nat.gcd_pos_of_pos_right _ h10
    have hg1 : Nat.gcd (cgC n1 k1 p1) (10 ^ n1) ≤ 10 ^ n1 := Nat.le_of_dvd h10 (Nat.gcd_dvd_right _ _)
    have loop : ∀ i : Nat, i ≤ n1 + 1 → GoM E 83 RX12 cX12_caught 12 (some .int) (fun r σ' => r = some (.int (nI 0)) ∧ RefIs σ' tx bd sk tw xs ld pa sh ru (2, ln2 (lN (cgC n1 k1 p1 / Nat.gcd (cgC n1 k1 p1) (10 ^ n1))) (lN (10 ^ n1 / Nat.gcd (cgC n1 k1 p1) (10 ^ n1)))) ∧ FrG [33] σ σ') τ 52 [(0, .ref (zA E 33 0)), (1, .int (nI n1)), (2, .int (nI k1)), (3, .int (nI p1)), (4, .long (lN (rU n1 k1 p1 i))), (6, .long (lN (wyN n1 i))), (8, .int (nI i))] [] := by
      intro i
      induction hj : n1 + 1 - i using Nat.strongRecOn generalizing i with
      | ind z ih =>
        intro hi
        have hwb := wyN_b n1 (by omega) i (by omega)
        have hwp : wyN n1 i * (n1 - i) ≤ 300 * 10 := Nat.mul_le_mul hwb (by omega)
        refine go_iload (pc := 52) dX12_caught_52 rfl ?_
        refine go_iload_n (i := 1) (pc := 54) dX12_caught_54 rfl rfl ?_
        refine go_icmp_gt 116 (pc := 55) dX12_caught_55 (by decide) (fun h55 => ?_) (fun h55 => ?_)
        · first | rw [nI_ltI (by omega) (by omega)] at h55 | rw [zi_ltN (by omega)] at h55 | rw [zi_Nlt (by omega)] at h55 | rw [zi_lt] at h55
          have e : i = n1 + 1 := by omega
          subst e
          rw [hce]
          refine go_bipush (nI 10) (pc := 116) dX12_caught_116 (by decide) ?_
          refine go_iload_n (i := 1) (pc := 118) dX12_caught_118 rfl rfl ?_
          refine go_callS ml_X12_404 mt_X12_power (pc := 119) dX12_caught_119 (c_X12_power (b := 10) (by decide) (by omega)) (by decide) (by decide) rfl rfl (Nat.le_of_ble_eq_true rfl) (fun r σ' hp => ?_)
          obtain ⟨rfl, hσ⟩ := hp
          rw [hσ]
          clear hσ σ'
          dsimp only [zRet]
          refine go_lstore (pc := 122) dX12_caught_122 (by decide) ?_
          refine go_lload (pc := 124) dX12_caught_124 rfl ?_
          refine go_lload (pc := 126) dX12_caught_126 rfl ?_
          refine go_callS ml_X12_100 mt_X12_common (pc := 128) dX12_caught_128 (c_X12_common hub2 (Nat.lt_of_le_of_lt h10b (by decide))) (by decide) (by decide) rfl rfl (Nat.le_of_ble_eq_true rfl) (fun r σ' hp => ?_)
          obtain ⟨rfl, hσ⟩ := hp
          rw [hσ]
          clear hσ σ'
          dsimp only [zRet]
          refine go_lstore (pc := 131) dX12_caught_131 (by decide) ?_
          refine go_aload_n (i := 0) (pc := 133) dX12_caught_133 rfl rfl ?_
          refine go_iconst (nI 0) (pc := 134) dX12_caught_134 (by decide) ?_
          refine go_puti fp_X12_104 (pc := 135) dX12_caught_135 (by rfl) rfl rfl ?_
          have hFt : Fr9 [0, 1, 27, 28] [1, 13, 14, 16, 8] σ (uS τ 33 1 (nI 0)) := (hF.mono (by simp) (by simp)).uS (by simp)
          have hz1 : (uS τ 33 1 (nI 0)).1 33 1 = nI 0 := uS_s _ _ _ _
          refine go_aload_n (i := 0) (pc := 138) dX12_caught_138 rfl rfl ?_
          refine go_lload (pc := 139) dX12_caught_139 rfl ?_
          refine go_lload (pc := 141) dX12_caught_141 rfl ?_
          refine go_ldiv (pc := 143) dX12_caught_143 (lN_ne (by omega) hg0) ?_
          rw [pk_lDiv (by omega) hg0 (by omega)]
          refine go_callV ml_X12_333 mt_X12_enters (pc := 144) dX12_caught_144 (c_tell1 hz1) (by rfl) rfl (by rfl) (by decide) (by decide) rfl rfl (Nat.le_of_ble_eq_true rfl) (fun r σ' hp => ?_)
          obtain ⟨rfl, hT1, hF1⟩ := hp
          dsimp only [zRet]
          have hFu := hFt.tr (hF1.mono (by simp) (by simp))
          refine go_aload_n (i := 0) (pc := 147) dX12_caught_147 rfl rfl ?_
          refine go_lload (pc := 148) dX12_caught_148 rfl ?_
          refine go_lload (pc := 150) dX12_caught_150 rfl ?_
          refine go_ldiv (pc := 152) dX12_caught_152 (lN_ne (by omega) hg0) ?_
          rw [pk_lDiv (by omega) hg0 (by omega)]
          refine go_callV ml_X12_333 mt_X12_enters (pc := 153) dX12_caught_153 (c_tell2 hT1) (by rfl) rfl (by rfl) (by decide) (by decide) rfl rfl (Nat.le_of_ble_eq_true rfl) (fun r σ' hp => ?_)
          obtain ⟨rfl, hT2, hF2⟩ := hp
          dsimp only [zRet]
          have hFv := hFu.tr (hF2.mono (by simp) (by simp))
          refine go_iconst (nI 0) (pc := 156) dX12_caught_156 (by decide) ?_
          refine go_ireturn (pc := 157) dX12_caught_157 rfl ?_
          exact ⟨rfl, hC.tell hFv (by decide) (by decide) hT2, hFv.1⟩
        · first | rw [nI_ltI (by omega) (by omega)] at h55 | rw [zi_ltN (by omega)] at h55 | rw [zi_Nlt (by omega)] at h55 | rw [zi_lt] at h55
          refine go_lload (pc := 58) dX12_caught_58 rfl ?_
          refine go_iload (pc := 60) dX12_caught_60 rfl ?_
          refine go_iload_n (i := 2) (pc := 62) dX12_caught_62 rfl rfl ?_
          refine go_icmp_lt 90 (pc := 63) dX12_caught_63 (by decide) (fun h63 => ?_) (fun h63 => ?_)
          · first | rw [nI_ltI (by omega) (by omega)] at h63 | rw [zi_ltN (by omega)] at h63 | rw [zi_Nlt (by omega)] at h63 | rw [zi_lt] at h63
            have es : rU n1 k1 p1 (i + 1) = rU n1 k1 p1 i + 0 := by rw [rU, if_neg (by omega)]
            refine go_lconst (lN 0) (pc := 90) dX12_caught_90 (by decide) ?_
            refine go_ladd (pc := 91) dX12_caught_91 ?_
            rw [lN_add, ← es]
            refine go_lstore (pc := 92) dX12_caught_92 (by decide) ?_
            refine go_lload (pc := 94) dX12_caught_94 rfl ?_
            refine go_iload_n (i := 1) (pc := 96) dX12_caught_96 rfl rfl ?_
            refine go_iload (pc := 97) dX12_caught_97 rfl ?_
            refine go_isubN (pc := 99) dX12_caught_99 (by omega) ?_
            refine go_i2l (pc := 100) dX12_caught_100 ?_
            rw [nI_l (by omega)]
            refine go_lmul (pc := 101) dX12_caught_101 ?_
            rw [lN_mul]
            refine go_iload (pc := 102) dX12_caught_102 rfl ?_
            refine go_iconst (nI 1) (pc := 104) dX12_caught_104 (by decide) ?_
            first | with_reducible refine go_iaddN (pc := 105) dX12_caught_105 ?_ | refine go_iadd (pc := 105) dX12_caught_105 ?_
            refine go_i2l (pc := 106) dX12_caught_106 ?_
            rw [nI_l (by omega)]
            refine go_ldiv (pc := 107) dX12_caught_107 (lN_ne (by omega) (by omega)) ?_
            rw [pk_lDiv (by omega) (by omega) (by omega)]
            refine go_lstore (pc := 108) dX12_caught_108 (by decide) ?_
            refine go_iincN (pc := 110) dX12_caught_110 rfl (by decide) ?_
            refine go_goto 52 (pc := 113) dX12_caught_113 (by decide) ?_
            exact ih (n1 + 1 - (i + 1)) (by omega) (i + 1) rfl (by omega)
          · first | rw [nI_ltI (by omega) (by omega)] at h63 | rw [zi_ltN (by omega)] at h63 | rw [zi_Nlt (by omega)] at h63 | rw [zi_lt] at h63
            have es : rU n1 k1 p1 (i + 1) = rU n1 k1 p1 i + wyN n1 i * p1 ^ i * (10 - p1) ^ (n1 - i) := by rw [rU, if_pos (by omega)]
            refine go_lload (pc := 66) dX12_caught_66 rfl ?_
            refine go_iload_n (i := 3) (pc := 68) dX12_caught_68 rfl rfl ?_
            refine go_iload (pc := 69) dX12_caught_69 rfl ?_
            refine go_callS ml_X12_404 mt_X12_power (pc := 71) dX12_caught_71 (c_X12_power hp1 (by omega)) (by decide) (by decide) rfl rfl (Nat.le_of_ble_eq_true rfl) (fun r σ' hp => ?_)
            obtain ⟨rfl, hσ⟩ := hp
            rw [hσ]
            clear hσ σ'
            dsimp only [zRet]
            refine go_lmul (pc := 74) dX12_caught_74 ?_
            rw [lN_mul]
            refine go_bipush (nI 10) (pc := 75) dX12_caught_75 (by decide) ?_
            refine go_iload_n (i := 3) (pc := 77) dX12_caught_77 rfl rfl ?_
            first | with_reducible refine go_isubN (pc := 78) dX12_caught_78 (by omega) ?_ | refine go_isub (pc := 78) dX12_caught_78 ?_
            refine go_iload_n (i := 1) (pc := 79) dX12_caught_79 rfl rfl ?_
            refine go_iload (pc := 80) dX12_caught_80 rfl ?_
            refine go_isubN (pc := 82) dX12_caught_82 (by omega) ?_
            refine go_callS ml_X12_404 mt_X12_power (pc := 83) dX12_caught_83 (c_X12_power (by omega) (by omega)) (by decide) (by decide) rfl rfl (Nat.le_of_ble_eq_true rfl) (fun r σ' hp => ?_)
            obtain ⟨rfl, hσ⟩ := hp
            rw [hσ]
            clear hσ σ'
            dsimp only [zRet]
            refine go_lmul (pc := 86) dX12_caught_86 ?_
            rw [lN_mul]
            refine go_goto 91 (pc := 87) dX12_caught_87 (by decide) ?_
            refine go_ladd (pc := 91) dX12_caught_91 ?_
            rw [lN_add, ← es]
            refine go_lstore (pc := 92) dX12_caught_92 (by decide) ?_
            refine go_lload (pc := 94) dX12_caught_94 rfl ?_
            refine go_iload_n (i := 1) (pc := 96) dX12_caught_96 rfl rfl ?_
            refine go_iload (pc := 97) dX12_caught_97 rfl ?_
            refine go_isubN (pc := 99) dX12_caught_99 (by omega) ?_
            refine go_i2l (pc := 100) dX12_caught_100 ?_
            rw [nI_l (by omega)]
            refine go_lmul (pc := 101) dX12_caught_101 ?_
            rw [lN_mul]
            refine go_iload (pc := 102) dX12_caught_102 rfl ?_
            refine go_iconst (nI 1) (pc := 104) dX12_caught_104 (by decide) ?_
            first | with_reducible refine go_iaddN (pc := 105) dX12_caught_105 ?_ | refine go_iadd (pc := 105) dX12_caught_105 ?_
            refine go_i2l (pc := 106) dX12_caught_106 ?_
            rw [nI_l (by omega)]
            refine go_ldiv (pc := 107) dX12_caught_107 (lN_ne (by omega) (by omega)) ?_
            rw [pk_lDiv (by omega) (by omega) (by omega)]
            refine go_lstore (pc := 108) dX12_caught_108 (by decide) ?_
            refine go_iincN (pc := 110) dX12_caught_110 rfl (by decide) ?_
            refine go_goto 52 (pc := 113) dX12_caught_113 (by decide) ?_
            exact ih (n1 + 1 - (i + 1)) (by omega) (i + 1) rfl (by omega)
        
    refine go_lconst (lN 0) (pc := 43) dX12_caught_43 (by decide) ?_
    refine go_lstore (pc := 44) dX12_caught_44 (by decide) ?_
    refine go_lconst (lN 1) (pc := 46) dX12_caught_46 (by decide) ?_
    refine go_lstore (pc := 47) dX12_caught_47 (by decide) ?_
    refine go_iconst (nI 0) (pc := 49) dX12_caught_49 (by decide) ?_
    refine go_istore (pc := 50) dX12_caught_50 (by decide) ?_
    exact loop 0 (by omega)
  refine go_aload_n (i := 0) (pc := 0) dX12_caught_0 rfl rfl ?_
  refine go_iconst (nI 0) (pc := 1) dX12_caught_1 (by decide) ?_
  refine go_puti fp_X12_97 (pc := 2) dX12_caught_2 (by rfl) rfl rfl ?_
  have hF : Fr9 [0, 27, 28] [13, 14, 16, 8] σ (uS σ 33 0 (nI 0)) := Fr9.rf.uS (by simp)
  refine go_iload_n (i := 1) (pc := 5) dX12_caught_5 rfl rfl ?_
  refine go_i2l (pc := 6) dX12_caught_6 ?_
  refine go_lconst (lN 1) (pc := 7) dX12_caught_7 (by decide) ?_
  refine go_ldc2 (10) kc_X12_402 (pc := 8) dX12_caught_8 ?_
  refine go_callS ml_X12_107 mt_X12_in (pc := 11) dX12_caught_11 (c_in (lo := 1) (hi := 10) (by decide) (by decide)) (by decide) (by decide) rfl rfl (Nat.le_of_ble_eq_true rfl) (fun r σ' hp => ?_)
  obtain ⟨rfl, hσ⟩ := hp
  rw [hσ]
  clear hσ σ'
  dsimp only [zRet]
  refine go_if_eq 41 (pc := 14) dX12_caught_14 (by decide) (fun h14 => ?_) (fun h14 => ?_)
  · first | rw [zb_0d] at h14 | rw [zn_eq0 (by omega)] at h14 | rw [zi_eq0] at h14
    refine go_iconst (-1) (pc := 41) dX12_caught_41 (by decide) ?_
    refine go_ireturn (pc := 42) dX12_caught_42 rfl ?_
    rw [if_neg (by omega), if_neg (by omega)]
    exact ⟨rfl, hC.fr hF (by decide) (by decide), hF.1⟩
  · first | rw [zb_0d] at h14 | rw [zn_eq0 (by omega)] at h14 | rw [zi_eq0] at h14
    refine go_iload_n (i := 2) (pc := 17) dX12_caught_17 rfl rfl ?_
    refine go_i2l (pc := 18) dX12_caught_18 ?_
    refine go_lconst (lN 0) (pc := 19) dX12_caught_19 (by decide) ?_
    refine go_ldc2 (10) kc_X12_402 (pc := 20) dX12_caught_20 ?_
    refine go_callS ml_X12_107 mt_X12_in (pc := 23) dX12_caught_23 (c_in (lo := 0) (hi := 10) (by decide) (by decide)) (by decide) (by decide) rfl rfl (Nat.le_of_ble_eq_true rfl) (fun r σ' hp => ?_)
    obtain ⟨rfl, hσ⟩ := hp
    rw [hσ]
    clear hσ σ'
    dsimp only [zRet]
    refine go_if_eq 41 (pc := 26) dX12_caught_26 (by decide) (fun h26 => ?_) (fun h26 => ?_)
    · first | rw [zb_0d] at h26 | rw [zn_eq0 (by omega)] at h26 | rw [zi_eq0] at h26
      refine go_iconst (-1) (pc := 41) dX12_caught_41 (by decide) ?_
      refine go_ireturn (pc := 42) dX12_caught_42 rfl ?_
      rw [if_neg (by omega), if_neg (by omega)]
      exact ⟨rfl, hC.fr hF (by decide) (by decide), hF.1⟩
    · first | rw [zb_0d] at h26 | rw [zn_eq0 (by omega)] at h26 | rw [zi_eq0] at h26
      refine go_iload_n (i := 3) (pc := 29) dX12_caught_29 rfl rfl ?_
      refine go_i2l (pc := 30) dX12_caught_30 ?_
      refine go_lconst (lN 0) (pc := 31) dX12_caught_31 (by decide) ?_
      refine go_ldc2 (10) kc_X12_402 (pc := 32) dX12_caught_32 ?_
      refine go_callS ml_X12_107 mt_X12_in (pc := 35) dX12_caught_35 (c_in (lo := 0) (hi := 10) (by decide) (by decide)) (by decide) (by decide) rfl rfl (Nat.le_of_ble_eq_true rfl) (fun r σ' hp => ?_)
      obtain ⟨rfl, hσ⟩ := hp
      rw [hσ]
      clear hσ σ'
      dsimp only [zRet]
      refine go_if_ne 43 (pc := 38) dX12_caught_38 (by decide) (fun h38 => ?_) (fun h38 => ?_)
      · first | rw [zb_0d] at h38 | rw [zn_eq0 (by omega)] at h38 | rw [zi_eq0] at h38
        rw [if_pos (by omega : cgOK n k p), if_pos (by omega : cgOK n k p)]
        have hh : n.toInt ≤ 10 ∧ 1 ≤ n.toInt ∧ k.toInt ≤ 10 ∧ p.toInt ≤ 10 := by omega
        have en1 := nI_of' (x := n) (by omega)
        generalize hqn1 : n.toInt.toNat = n1 at en1 ⊢
        subst en1
        have ek1 := nI_of' (x := k) (by omega)
        generalize hqk1 : k.toInt.toNat = k1 at ek1 ⊢
        subst ek1
        have ep1 := nI_of' (x := p) (by omega)
        generalize hqp1 : p.toInt.toNat = p1 at ep1 ⊢
        subst ep1
        exact main n1 k1 p1 (by omega) (by omega) (by omega) (by omega) _ hF
      · first | rw [zb_0d] at h38 | rw [zn_eq0 (by omega)] at h38 | rw [zi_eq0] at h38
        refine go_iconst (-1) (pc := 41) dX12_caught_41 (by decide) ?_
        refine go_ireturn (pc := 42) dX12_caught_42 rfl ?_
        rw [if_neg (by omega), if_neg (by omega)]
        exact ⟨rfl, hC.fr hF (by decide) (by decide), hF.1⟩

theorem c_X12_lasts {E : zE} {σ : zT} {tx : Nat × (Nat → Nat)} {bd : Nat × (Nat → Nat) × (Nat → Nat)} {sk : Nat × (Nat → Nat)} {tw : Nat × (Nat → Nat) × (Nat → Nat)} {xs : List Nat} {ld : Nat × (Nat → Nat)} {pa sh : Nat × (Nat → Nat → Nat)} {ru : Nat × (Nat → Nat) × (Nat → Nat)} {to : Nat × (Nat → Int64)} {p v : Int32} (hC : RefIs σ tx bd sk tw xs ld pa sh ru to) : CalM E 1 yX12_lasts cX12_lasts 5 (some .int) [.ref (zA E 33 0), .int p, .int v] σ (fun r σ' => r = some (.int (if in0 p 10 ∧ in0 v 100 then nI (lst p.toInt.toNat v.toInt.toNat 12) else -1)) ∧ RefIs σ' tx bd sk tw xs ld pa sh ru to ∧ FrG [33] σ σ') := by
  refine cal_of_go (own := RX12) rfl (by decide +kernel) (Nat.le_of_ble_eq_true rfl) ?_
  have main : ∀ p1 v1 : Nat, p1 ≤ 10 → v1 ≤ 100 → ∀ τ, Fr9 [0, 27, 28] [13, 14, 16, 8] σ τ → GoM E 1 RX12 cX12_lasts 5 (some .int) (fun r σ' => r = some (.int (nI (lst p1 v1 12))) ∧ RefIs σ' tx bd sk tw xs ld pa sh ru to ∧ FrG [33] σ σ') τ 31 [(0, .ref (zA E 33 0)), (1, .int (nI p1)), (2, .int (nI v1))] [] := by
    intro p1 v1 hp1 hv1 τ hF
    have loop : ∀ i : Nat, i ≤ 12 → GoM E 1 RX12 cX12_lasts 5 (some .int) (fun r σ' => r = some (.int (nI (lst p1 v1 12))) ∧ RefIs σ' tx bd sk tw xs ld pa sh ru to ∧ FrG [33] σ σ') τ 36 [(0, .ref (zA E 33 0)), (1, .int (nI p1)), (2, .int (nI v1)), (3, .int (nI (lst p1 v1 i))), (4, .int (nI (i + 1)))] [] := by
      intro i
      induction hj : 12 - i using Nat.strongRecOn generalizing i with
      | ind z ih =>
        intro hi
        refine go_iload (pc := 36) dX12_lasts_36 rfl ?_
        refine go_bipush (nI 12) (pc := 38) dX12_lasts_38 (by decide) ?_
        refine go_icmp_gt 83 (pc := 40) dX12_lasts_40 (by decide) (fun h40 => ?_) (fun h40 => ?_)
        · first | rw [nI_ltI (by omega) (by omega)] at h40 | rw [zi_ltN (by omega)] at h40 | rw [zi_Nlt (by omega)] at h40 | rw [zi_lt] at h40
          have ei : i = 12 := by omega
          subst ei
          refine go_iload_n (i := 3) (pc := 83) dX12_lasts_83 rfl rfl ?_
          refine go_ireturn (pc := 84) dX12_lasts_84 rfl ?_
          exact ⟨rfl, hC.fr hF (by decide) (by decide), hF.1⟩
        · first | rw [nI_ltI (by omega) (by omega)] at h40 | rw [zi_ltN (by omega)] at h40 | rw [zi_Nlt (by omega)] at h40 | rw [zi_lt] at h40
          have hb1 := pow_b (b := 10 - p1) (e := i + 1) (by omega) (by omega)
          have hb2 := pow_b (b := 10) (e := i + 1) (by decide) (by omega)
          have hb3 : v1 * 10 ^ (i + 1) ≤ 100 * 10 ^ 12 := Nat.mul_le_mul hv1 hb2
          refine go_ldc2 (100) kc_X12_408 (pc := 43) dX12_lasts_43 ?_
          rw [show (100 : Int64) = lN 100 from rfl]
          refine go_bipush (nI 10) (pc := 46) dX12_lasts_46 (by decide) ?_
          refine go_iload_n (i := 1) (pc := 48) dX12_lasts_48 rfl rfl ?_
          first | with_reducible refine go_isubN (pc := 49) dX12_lasts_49 (by omega) ?_ | refine go_isub (pc := 49) dX12_lasts_49 ?_
          refine go_iload (pc := 50) dX12_lasts_50 rfl ?_
          refine go_callS ml_X12_404 mt_X12_power (pc := 52) dX12_lasts_52 (c_X12_power (by omega) (by omega)) (by decide) (by decide) rfl rfl (Nat.le_of_ble_eq_true rfl) (fun r σ' hp => ?_)
          obtain ⟨rfl, hσ⟩ := hp
          rw [hσ]
          clear hσ σ'
          dsimp only [zRet]
          refine go_lmul (pc := 55) dX12_lasts_55 ?_
          rw [lN_mul]
          refine go_iload_n (i := 2) (pc := 56) dX12_lasts_56 rfl rfl ?_
          refine go_i2l (pc := 57) dX12_lasts_57 ?_
          rw [nI_l (by omega)]
          refine go_bipush (nI 10) (pc := 58) dX12_lasts_58 (by decide) ?_
          refine go_iload (pc := 60) dX12_lasts_60 rfl ?_
          refine go_callS ml_X12_404 mt_X12_power (pc := 62) dX12_lasts_62 (c_X12_power (b := 10) (by decide) (by omega)) (by decide) (by decide) rfl rfl (Nat.le_of_ble_eq_true rfl) (fun r σ' hp => ?_)
          obtain ⟨rfl, hσ⟩ := hp
          rw [hσ]
          clear hσ σ'
          dsimp only [zRet]
          refine go_lmul (pc := 65) dX12_lasts_65 ?_
          rw [lN_mul]
          refine go_lcmp (pc := 66) dX12_lasts_66 ?_
          refine go_if_lt 75 (pc := 67) dX12_lasts_67 (by decide) (fun h67 => ?_) (fun h67 => ?_)
          · rw [lg_cmp_lt, pk_lLT (by omega) (by omega)] at h67
            have es : lst p1 v1 (i + 1) = lst p1 v1 i := by rw [lst, if_neg (by omega)]
            refine go_iload_n (i := 3) (pc := 75) dX12_lasts_75 rfl rfl ?_
            refine go_istore_n (i := 3) (pc := 76) dX12_lasts_76 rfl (by decide) ?_
            refine go_iincN (pc := 77) dX12_lasts_77 rfl (by decide) ?_
            refine go_goto 36 (pc := 80) dX12_lasts_80 (by decide) ?_
            have ih2 := ih (12 - (i + 1)) (by omega) (i + 1) rfl (by omega)
            rw [es] at ih2
            exact ih2
          · rw [lg_cmp_lt, pk_lLT (by omega) (by omega)] at h67
            have es : lst p1 v1 (i + 1) = i + 1 := by rw [lst, if_pos (by omega)]
            refine go_iload (pc := 70) dX12_lasts_70 rfl ?_
            refine go_goto 76 (pc := 72) dX12_lasts_72 (by decide) ?_
            refine go_istore_n (i := 3) (pc := 76) dX12_lasts_76 rfl (by decide) ?_
            refine go_iincN (pc := 77) dX12_lasts_77 rfl (by decide) ?_
            refine go_goto 36 (pc := 80) dX12_lasts_80 (by decide) ?_
            have ih2 := ih (12 - (i + 1)) (by omega) (i + 1) rfl (by omega)
            rw [es] at ih2
            exact ih2
        
    refine go_iconst (nI 0) (pc := 31) dX12_lasts_31 (by decide) ?_
    refine go_istore_n (i := 3) (pc := 32) dX12_lasts_32 rfl (by decide) ?_
    refine go_iconst (nI 1) (pc := 33) dX12_lasts_33 (by decide) ?_
    refine go_istore (pc := 34) dX12_lasts_34 (by decide) ?_
    exact loop 0 (by omega)
  refine go_aload_n (i := 0) (pc := 0) dX12_lasts_0 rfl rfl ?_
  refine go_iconst (nI 0) (pc := 1) dX12_lasts_1 (by decide) ?_
  refine go_puti fp_X12_97 (pc := 2) dX12_lasts_2 (by rfl) rfl rfl ?_
  have hF : Fr9 [0, 27, 28] [13, 14, 16, 8] σ (uS σ 33 0 (nI 0)) := Fr9.rf.uS (by simp)
  refine go_iload_n (i := 1) (pc := 5) dX12_lasts_5 rfl rfl ?_
  refine go_i2l (pc := 6) dX12_lasts_6 ?_
  refine go_lconst (lN 0) (pc := 7) dX12_lasts_7 (by decide) ?_
  refine go_ldc2 (10) kc_X12_402 (pc := 8) dX12_lasts_8 ?_
  refine go_callS ml_X12_107 mt_X12_in (pc := 11) dX12_lasts_11 (c_in (lo := 0) (hi := 10) (by decide) (by decide)) (by decide) (by decide) rfl rfl (Nat.le_of_ble_eq_true rfl) (fun r σ' hp => ?_)
  obtain ⟨rfl, hσ⟩ := hp
  rw [hσ]
  clear hσ σ'
  dsimp only [zRet]
  refine go_if_eq 29 (pc := 14) dX12_lasts_14 (by decide) (fun h14 => ?_) (fun h14 => ?_)
  · first | rw [zb_0d] at h14 | rw [zn_eq0 (by omega)] at h14 | rw [zi_eq0] at h14
    refine go_iconst (-1) (pc := 29) dX12_lasts_29 (by decide) ?_
    refine go_ireturn (pc := 30) dX12_lasts_30 rfl ?_
    rw [if_neg (by omega)]
    exact ⟨rfl, hC.fr hF (by decide) (by decide), hF.1⟩
  · first | rw [zb_0d] at h14 | rw [zn_eq0 (by omega)] at h14 | rw [zi_eq0] at h14
    refine go_iload_n (i := 2) (pc := 17) dX12_lasts_17 rfl rfl ?_
    refine go_i2l (pc := 18) dX12_lasts_18 ?_
    refine go_lconst (lN 0) (pc := 19) dX12_lasts_19 (by decide) ?_
    refine go_ldc2 (100) kc_X12_408 (pc := 20) dX12_lasts_20 ?_
    refine go_callS ml_X12_107 mt_X12_in (pc := 23) dX12_lasts_23 (c_in (lo := 0) (hi := 100) (by decide) (by decide)) (by decide) (by decide) rfl rfl (Nat.le_of_ble_eq_true rfl) (fun r σ' hp => ?_)
    obtain ⟨rfl, hσ⟩ := hp
    rw [hσ]
    clear hσ σ'
    dsimp only [zRet]
    refine go_if_ne 31 (pc := 26) dX12_lasts_26 (by decide) (fun h26 => ?_) (fun h26 => ?_)
    · first | rw [zb_0d] at h26 | rw [zn_eq0 (by omega)] at h26 | rw [zi_eq0] at h26
      rw [if_pos (by omega : in0 p 10 ∧ in0 v 100)]
      have hh : p.toInt ≤ 10 ∧ v.toInt ≤ 100 := by omega
      have ep1 := nI_of' (x := p) (by omega)
      generalize hqp1 : p.toInt.toNat = p1 at ep1 ⊢
      subst ep1
      have ev1 := nI_of' (x := v) (by omega)
      generalize hqv1 : v.toInt.toNat = v1 at ev1 ⊢
      subst ev1
      exact main p1 v1 (by omega) (by omega) _ hF
    · first | rw [zb_0d] at h26 | rw [zn_eq0 (by omega)] at h26 | rw [zi_eq0] at h26
      refine go_iconst (-1) (pc := 29) dX12_lasts_29 (by decide) ?_
      refine go_ireturn (pc := 30) dX12_lasts_30 rfl ?_
      rw [if_neg (by omega)]
      exact ⟨rfl, hC.fr hF (by decide) (by decide), hF.1⟩

