def gI (V : zV) (ρ : Nat → Nat) (c : Nat) : Int32 := nI (vL V c) * (nI (ρ 26) - nI (ρ 25))
theorem gI_toInt {V : zV} {ρ : Nat → Nat} {c : Nat} (h1 : vL V c ≤ 9) (h2 : ρ 25 ≤ 99) (h3 : ρ 26 ≤ 99) : (gI V ρ c).toInt = gain V ρ c := by
  have e1 : (nI (ρ 26) - nI (ρ 25)).toInt = (ρ 26 : Int) - (ρ 25 : Int) := pk_sub_toInt (by omega) (by omega)
  have hb : -891 ≤ (vL V c : Int) * ((ρ 26 : Int) - (ρ 25 : Int)) ∧ (vL V c : Int) * ((ρ 26 : Int) - (ρ 25 : Int)) ≤ 891 := by
    have : vL V c = 0 ∨ vL V c = 1 ∨ vL V c = 2 ∨ vL V c = 3 ∨ vL V c = 4 ∨ vL V c = 5 ∨ vL V c = 6 ∨ vL V c = 7 ∨ vL V c = 8 ∨ vL V c = 9 := by omega
    rcases this with h | h | h | h | h | h | h | h | h | h <;> (rw [h]; omega)
  unfold gI gain
  rw [Int32.toInt_mul, nI_toInt (by omega), e1]
  exact Int.bmod_eq_of_le (by omega) (by omega)
theorem gain_b {V : zV} {ρ : Nat → Nat} {c : Nat} (h1 : vL V c ≤ 9) (h2 : ρ 25 ≤ 99) (h3 : ρ 26 ≤ 99) : -891 ≤ gain V ρ c ∧ gain V ρ c ≤ 891 := by
  have : vL V c = 0 ∨ vL V c = 1 ∨ vL V c = 2 ∨ vL V c = 3 ∨ vL V c = 4 ∨ vL V c = 5 ∨ vL V c = 6 ∨ vL V c = 7 ∨ vL V c = 8 ∨ vL V c = 9 := by omega
  unfold gain
  rcases this with h | h | h | h | h | h | h | h | h | h <;> (rw [h]; omega)
def gM (e : Option Nat) : Int32 := match e with | none => -1 | some m => nI m
theorem gos_some {V : zV} {ρ : Nat → Nat} {c m x : Nat} (he : easy V ρ c = some (m, x)) : gos V ρ c = if (x : Int) < gain V ρ c then some m else none := by unfold gos; rw [he]
theorem gos_none {V : zV} {ρ : Nat → Nat} {c : Nat} (he : easy V ρ c = none) : gos V ρ c = none := by unfold gos; rw [he]

theorem c_X1_least {E : zE} {σ : zT}   : CalM E 0 yX1_least cX1_least 1 (some .int) [.ref (zA E 5 0)] σ (fun r σ' => r = some (.int (σ.1 5 3)) ∧ σ' = σ) := by
  refine cal_of_go (own := RX1) rfl (by decide +kernel) (Nat.le_of_ble_eq_true rfl) ?_
  refine go_aload_n (i := 0) (pc := 0) dX1_least_0 rfl rfl ?_
  refine go_geti fl_X1_65 (pc := 1) dX1_least_1 (by first | rfl | (apply zL_fi <;> first | assumption | decide) | (apply zR_fi <;> first | assumption | decide)) ?_
  refine go_ireturn (pc := 4) dX1_least_4 rfl ?_
  exact ⟨rfl, rfl⟩

theorem c_X1_went {E : zE} {σ : zT}   : CalM E 0 yX1_went cX1_went 1 (some .int) [.ref (zA E 5 0)] σ (fun r σ' => r = some (.int (σ.1 5 4)) ∧ σ' = σ) := by
  refine cal_of_go (own := RX1) rfl (by decide +kernel) (Nat.le_of_ble_eq_true rfl) ?_
  refine go_aload_n (i := 0) (pc := 0) dX1_went_0 rfl rfl ?_
  refine go_geti fl_X1_96 (pc := 1) dX1_went_1 (by first | rfl | (apply zL_fi <;> first | assumption | decide) | (apply zR_fi <;> first | assumption | decide)) ?_
  refine go_ireturn (pc := 4) dX1_went_4 rfl ?_
  exact ⟨rfl, rfl⟩

theorem c_X1_everWent {E : zE} {σ : zT}   : CalM E 0 yX1_everWent cX1_everWent 1 (some .int) [.ref (zA E 5 0)] σ (fun r σ' => r = some (.int (σ.1 5 5)) ∧ σ' = σ) := by
  refine cal_of_go (own := RX1) rfl (by decide +kernel) (Nat.le_of_ble_eq_true rfl) ?_
  refine go_aload_n (i := 0) (pc := 0) dX1_everWent_0 rfl rfl ?_
  refine go_geti fl_X1_106 (pc := 1) dX1_everWent_1 (by first | rfl | (apply zL_fi <;> first | assumption | decide) | (apply zR_fi <;> first | assumption | decide)) ?_
  refine go_ireturn (pc := 4) dX1_everWent_4 rfl ?_
  exact ⟨rfl, rfl⟩

theorem c_X1_quietWeeks {E : zE} {σ : zT}   : CalM E 0 yX1_quietWeeks cX1_quietWeeks 1 (some .int) [.ref (zA E 5 0)] σ (fun r σ' => r = some (.int (σ.1 5 6)) ∧ σ' = σ) := by
  refine cal_of_go (own := RX1) rfl (by decide +kernel) (Nat.le_of_ble_eq_true rfl) ?_
  refine go_aload_n (i := 0) (pc := 0) dX1_quietWeeks_0 rfl rfl ?_
  refine go_geti fl_X1_109 (pc := 1) dX1_quietWeeks_1 (by first | rfl | (apply zL_fi <;> first | assumption | decide) | (apply zR_fi <;> first | assumption | decide)) ?_
  refine go_ireturn (pc := 4) dX1_quietWeeks_4 rfl ?_
  exact ⟨rfl, rfl⟩

theorem c_X1_gain {E : zE} {σ : zT} {kr kl : Nat} {V : zV} {ρ : Nat → Nat} {c : Nat} (hW : WIs σ kr kl V ρ) (hc : c < vC V) : CalM E 2 yX1_gain cX1_gain 3 (some .int) [.ref (zA E 5 0), .ref (zA E kl 0), .int (nI c)] σ (fun r σ' => r = some (.int (gI V ρ c)) ∧ σ' = σ) := by
  refine cal_of_go (own := RX1) rfl (by decide +kernel) (Nat.le_of_ble_eq_true rfl) ?_
  have h1 := hW.1.2
  have hB := hW.2.2.1
  have hL := hW.2.2.2.2
  refine go_aload_n (i := 0) (pc := 0) dX1_gain_0 rfl rfl ?_
  refine go_getr2 fl_X1_15 (pc := 1) dX1_gain_1 (by first | rfl | (apply zL_ci <;> assumption) | (apply zR_ci <;> assumption)) (by first | rfl | (apply zL_in <;> first | assumption | decide) | (apply zR_in <;> first | assumption | decide)) (by first | rfl | (apply zL_fr0 <;> assumption) | (apply zL_fr1 <;> assumption) | (apply zR_fr0 <;> assumption) | (apply zR_fr1 <;> assumption) | (apply zR_fr2 <;> assumption) | (apply zR_fr3 <;> assumption)) ?_
  refine go_iload_n (i := 2) (pc := 4) dX1_gain_4 rfl rfl ?_
  refine go_callV ml_X1_53 mt_X0_loadOf (pc := 5) dX1_gain_5 (c_X0_loadOf hB hc) (by first | rfl | (apply zL_cq <;> assumption) | (apply zR_cq <;> assumption)) rfl (by first | rfl | (apply zL_in <;> first | assumption | decide) | (apply zR_in <;> first | assumption | decide)) (by decide) (by decide) rfl rfl (Nat.le_of_ble_eq_true rfl) (fun r σ' hp => ?_)
  obtain ⟨rfl, hσ⟩ := hp
  rw [hσ]
  clear hσ σ'
  dsimp only [zRet]
  refine go_aload_n (i := 1) (pc := 8) dX1_gain_8 rfl rfl ?_
  refine go_callV ml_X1_76 mt_X2_dear (pc := 9) dX1_gain_9 (c_X2_dear h1 hL) (by first | rfl | (apply zL_cq <;> assumption) | (apply zR_cq <;> assumption)) rfl (by first | rfl | (apply zL_in <;> first | assumption | decide) | (apply zR_in <;> first | assumption | decide)) (by decide) (by decide) rfl rfl (Nat.le_of_ble_eq_true rfl) (fun r σ' hp => ?_)
  obtain ⟨rfl, hσ⟩ := hp
  rw [hσ]
  clear hσ σ'
  dsimp only [zRet]
  refine go_aload_n (i := 1) (pc := 12) dX1_gain_12 rfl rfl ?_
  refine go_callV ml_X1_79 mt_X2_cheap (pc := 13) dX1_gain_13 (c_X2_cheap h1 hL) (by first | rfl | (apply zL_cq <;> assumption) | (apply zR_cq <;> assumption)) rfl (by first | rfl | (apply zL_in <;> first | assumption | decide) | (apply zR_in <;> first | assumption | decide)) (by decide) (by decide) rfl rfl (Nat.le_of_ble_eq_true rfl) (fun r σ' hp => ?_)
  obtain ⟨rfl, hσ⟩ := hp
  rw [hσ]
  clear hσ σ'
  dsimp only [zRet]
  refine go_isub (pc := 16) dX1_gain_16 ?_
  refine go_imul (pc := 17) dX1_gain_17 ?_
  refine go_ireturn (pc := 18) dX1_gain_18 rfl ?_
  exact ⟨rfl, rfl⟩

theorem c_X1_goal {E : zE} {σ : zT} {kr kl : Nat} {V : zV} {ρ : Nat → Nat} {c : Nat} (hW : WIs σ kr kl V ρ) (hc : c < vC V) : CalM E 4 yX1_goal cX1_goal 5 (some .int) [.ref (zA E 5 0), .ref (zA E kr 0), .ref (zA E kl 0), .int (nI c)] σ (fun r σ' => r = some (.int (gM (gos V ρ c))) ∧ σ'.1 5 3 = eD (easy V ρ c) ∧ WIs σ' kr kl V ρ ∧ FrG [kr, 5] σ σ' ∧ Fr5 [3] σ σ') := by
  refine cal_of_go (own := RX1) rfl (by decide +kernel) (Nat.le_of_ble_eq_true rfl) ?_
  have hV := hW.vok
  have hok := hW.2.2.2.2.1
  have hn := hW.2.2.2.2.b
  have hl9 := (hV.2.2.2.1 c hc).2.2
  refine go_aload_n (i := 0) (pc := 0) dX1_goal_0 rfl rfl ?_
  refine go_aload_n (i := 1) (pc := 1) dX1_goal_1 rfl rfl ?_
  refine go_aload_n (i := 2) (pc := 2) dX1_goal_2 rfl rfl ?_
  refine go_iload_n (i := 3) (pc := 3) dX1_goal_3 rfl rfl ?_
  refine go_callV ml_X1_82 mt_X1_safest (pc := 4) dX1_goal_4 (c_X1_safest hW hc) (by first | rfl | (apply zL_cq <;> assumption) | (apply zR_cq <;> assumption)) rfl (by first | rfl | (apply zL_in <;> first | assumption | decide) | (apply zR_in <;> first | assumption | decide)) (by decide) (by decide) rfl rfl (Nat.le_of_ble_eq_true rfl) (fun r σ' hp => ?_)
  obtain ⟨rfl, hD, hT, hF, hF5⟩ := hp
  dsimp only [zRet]
  have hsl : ∀ b, easy V ρ c = some b → b.1 < vN V ∧ b.2 ≤ 999 := fun b hb => saf_lt (b := b.1) (x := b.2) hV hok hb
  refine go_istore (pc := 7) dX1_goal_7 (by decide) ?_
  refine go_iload (pc := 9) dX1_goal_9 rfl ?_
  refine go_iconst (-1) (pc := 11) dX1_goal_11 (by decide) ?_
  refine go_icmp_eq 33 (pc := 12) dX1_goal_12 (by decide) (fun h12 => ?_) (fun h12 => ?_)
  · rw [eM_n (fun b hb => by have := (hsl b hb).1; omega)] at h12
    have eg := gos_none h12
    refine go_iconst (-1) (pc := 33) dX1_goal_33 (by decide) ?_
    refine go_ireturn (pc := 34) dX1_goal_34 rfl ?_
    first
      | exact ⟨by rw [eg]; rfl, hD, hT, hF, hF5⟩
      | exact ⟨by rw [eg]; rfl, by rw [← he]; exact hD, hT, hF, hF5⟩
  · rw [eM_n (fun b hb => by have := (hsl b hb).1; omega)] at h12
    obtain ⟨⟨m, x⟩, he⟩ : ∃ b, easy V ρ c = some b := by { cases hd : easy V ρ c with | none => exact absurd hd h12 | some x => exact ⟨x, rfl⟩ }
    have hbl := hsl _ he
    dsimp only at hbl
    refine go_aload_n (i := 0) (pc := 15) dX1_goal_15 rfl rfl ?_
    refine go_aload_n (i := 2) (pc := 16) dX1_goal_16 rfl rfl ?_
    refine go_iload_n (i := 3) (pc := 17) dX1_goal_17 rfl rfl ?_
    refine go_callV ml_X1_86 mt_X1_gain (pc := 18) dX1_goal_18 (c_X1_gain hT hc) (by first | rfl | (apply zL_cq <;> assumption) | (apply zR_cq <;> assumption)) rfl (by first | rfl | (apply zL_in <;> first | assumption | decide) | (apply zR_in <;> first | assumption | decide)) (by decide) (by decide) rfl rfl (Nat.le_of_ble_eq_true rfl) (fun r σ' hp => ?_)
    obtain ⟨rfl, hσ⟩ := hp
    rw [hσ]
    clear hσ σ'
    dsimp only [zRet]
    refine go_aload_n (i := 0) (pc := 21) dX1_goal_21 rfl rfl ?_
    refine go_geti fl_X1_65 (pc := 22) dX1_goal_22 (by first | rfl | (apply zL_fi <;> first | assumption | decide) | (apply zR_fi <;> first | assumption | decide)) ?_
    rw [hD]
    refine go_icmp_le 33 (pc := 25) dX1_goal_25 (by decide) (fun h25 => ?_) (fun h25 => ?_)
    · rw [he, eD, zi_leN (by omega), gI_toInt hl9 hok.2.2.2.2.1 hok.2.2.2.2.2.1] at h25
      have eg : gos V ρ c = none := by rw [gos_some he, if_neg (by omega)]
      refine go_iconst (-1) (pc := 33) dX1_goal_33 (by decide) ?_
      refine go_ireturn (pc := 34) dX1_goal_34 rfl ?_
      first
        | exact ⟨by rw [eg]; rfl, hD, hT, hF, hF5⟩
        | exact ⟨by rw [eg]; rfl, by rw [← he]; exact hD, hT, hF, hF5⟩
    · rw [he, eD, zi_leN (by omega), gI_toInt hl9 hok.2.2.2.2.1 hok.2.2.2.2.2.1] at h25
      have eg : gos V ρ c = some m := by rw [gos_some he, if_pos (by omega)]
      rw [he]
      refine go_iload (pc := 28) dX1_goal_28 rfl ?_
      refine go_goto 34 (pc := 30) dX1_goal_30 (by decide) ?_
      refine go_ireturn (pc := 34) dX1_goal_34 rfl ?_
      first
        | exact ⟨by rw [eg]; rfl, hD, hT, hF, hF5⟩
        | exact ⟨by rw [eg]; rfl, by rw [← he]; exact hD, hT, hF, hF5⟩

set_option maxRecDepth 4000 in
theorem c_X1_cross {E : zE} {σ : zT} {kr kl : Nat} {V : zV} {ρ : Nat → Nat} {st : Nat} (hW : WIs σ kr kl V ρ) (hst : st < 2 ^ 12) : CalM E 4 yX1_cross cX1_cross 7 (some .int) [.ref (zA E 5 0), .ref (zA E kr 0), .ref (zA E kl 0), .int (nI st)] σ (fun r σ' => r = some (.int (nI (crsA V st ρ).2.1)) ∧ σ'.1 5 4 = nI (crsA V st ρ).1 ∧ (∀ i, i < 12 → σ'.2.1 5 1 i = nI ((crsA V st ρ).2.2.1 i)) ∧ WIs σ' kr kl V (crsA V st ρ).2.2.2 ∧ FrG [kr, 5, kl] σ σ' ∧ (∀ f, f ≠ 3 → f ≠ 4 → σ'.1 5 f = σ.1 5 f)) := by
  refine cal_of_go (own := RX1) rfl (by decide +kernel) (Nat.le_of_ble_eq_true rfl) ?_
  have hV := hW.vok
  have h0 := hW.1.1
  have h1 := hW.1.2
  have hno := zR_no h0 h1
  have hok := hW.2.2.2.2.1
  have hn := hW.2.2.2.2.b
  have hnc := hV.2.2.1
  have loop : ∀ (j : Nat) (τ : zT), j ≤ vC V → τ.1 5 4 = nI (crs V st ρ j).1 → (∀ i, i < 12 → τ.2.1 5 1 i = nI ((crs V st ρ j).2.2.1 i)) → WIs τ kr kl V (crs V st ρ j).2.2.2 → FrG [kr, 5, kl] σ τ → (∀ f, f ≠ 3 → f ≠ 4 → τ.1 5 f = σ.1 5 f) → GoM E 4 RX1 cX1_cross 7 (some .int) (fun r σ' => r = some (.int (nI (crsA V st ρ).2.1)) ∧ σ'.1 5 4 = nI (crsA V st ρ).1 ∧ (∀ i, i < 12 → σ'.2.1 5 1 i = nI ((crsA V st ρ).2.2.1 i)) ∧ WIs σ' kr kl V (crsA V st ρ).2.2.2 ∧ FrG [kr, 5, kl] σ σ' ∧ (∀ f, f ≠ 3 → f ≠ 4 → σ'.1 5 f = σ.1 5 f)) τ 19 [(0, .ref (zA E 5 0)), (1, .ref (zA E kr 0)), (2, .ref (zA E kl 0)), (3, .int (nI st)), (4, .int (nI (crs V st ρ j).2.1)), (5, .int (nI j))] [] := by
    intro j
    induction hj : vC V - j using Nat.strongRecOn generalizing j with
    | ind z ih =>
      intro τ hjn hwt hom hT hF hF5
      have hB := hT.2.2.1
      obtain ⟨hok2, hq12, hq9, hqb, hqo⟩ := crs_ok (st := st) hV hok j hjn
      refine go_iload (pc := 19) dX1_cross_19 rfl ?_
      refine go_aload_n (i := 0) (pc := 21) dX1_cross_21 rfl rfl ?_
      refine go_getr2 fl_X1_15 (pc := 22) dX1_cross_22 (by first | rfl | (apply zL_ci <;> assumption) | (apply zR_ci <;> assumption)) (by first | rfl | (apply zL_in <;> first | assumption | decide) | (apply zR_in <;> first | assumption | decide)) (by first | rfl | (apply zL_fr0 <;> assumption) | (apply zL_fr1 <;> assumption) | (apply zR_fr0 <;> assumption) | (apply zR_fr1 <;> assumption) | (apply zR_fr2 <;> assumption) | (apply zR_fr3 <;> assumption)) ?_
      refine go_callV ml_X1_99 mt_X0_size (pc := 25) dX1_cross_25 (c_X0_size hB) (by first | rfl | (apply zL_cq <;> assumption) | (apply zR_cq <;> assumption)) rfl (by first | rfl | (apply zL_in <;> first | assumption | decide) | (apply zR_in <;> first | assumption | decide)) (by decide) (by decide) rfl rfl (Nat.le_of_ble_eq_true rfl) (fun r σ' hp => ?_)
      obtain ⟨rfl, hσ⟩ := hp
      rw [hσ]
      clear hσ σ'
      dsimp only [zRet]
      refine go_icmp_ge 180 (pc := 28) dX1_cross_28 (by decide) (fun h28 => ?_) (fun h28 => ?_)
      · first | rw [nI_leI (by omega) (by omega)] at h28 | rw [zi_leN (by omega)] at h28 | rw [zi_Nle (by omega)] at h28 | rw [zi_le] at h28
        have ej : j = vC V := by omega
        subst ej
        refine go_iload (pc := 180) dX1_cross_180 rfl ?_
        refine go_ireturn (pc := 182) dX1_cross_182 rfl ?_
        exact ⟨rfl, hwt, hom, hT, hF, hF5⟩
      · first | rw [nI_leI (by omega) (by omega)] at h28 | rw [zi_leN (by omega)] at h28 | rw [zi_Nle (by omega)] at h28 | rw [zi_le] at h28
        refine go_iload_n (i := 3) (pc := 31) dX1_cross_31 rfl rfl ?_
        refine go_iload (pc := 32) dX1_cross_32 rfl ?_
        refine go_ishr (pc := 34) dX1_cross_34 ?_
        refine go_iconst (nI 1) (pc := 35) dX1_cross_35 (by decide) ?_
        refine go_iand (pc := 36) dX1_cross_36 ?_
        rw [zbit hst (by omega)]
        refine go_if_eq 43 (pc := 37) dX1_cross_37 (by decide) (fun h37 => ?_) (fun h37 => ?_)
        · rw [nI_if] at h37
          have hstb : ¬ st.testBit j = true := h37
          refine go_aload_n (i := 0) (pc := 43) dX1_cross_43 rfl rfl ?_
          refine go_aload_n (i := 1) (pc := 44) dX1_cross_44 rfl rfl ?_
          refine go_aload_n (i := 2) (pc := 45) dX1_cross_45 rfl rfl ?_
          refine go_iload (pc := 46) dX1_cross_46 rfl ?_
          refine go_callV ml_X1_82 mt_X1_safest (pc := 48) dX1_cross_48 (c_X1_safest hT (by omega)) (by first | rfl | (apply zL_cq <;> assumption) | (apply zR_cq <;> assumption)) rfl (by first | rfl | (apply zL_in <;> first | assumption | decide) | (apply zR_in <;> first | assumption | decide)) (by decide) (by decide) rfl rfl (Nat.le_of_ble_eq_true rfl) (fun r σ' hp => ?_)
          obtain ⟨rfl, hD, hT2, hF2, hF52⟩ := hp
          dsimp only [zRet]
          have hB2 := hT2.2.2.1
          have hL2 := hT2.2.2.2.2
          have hsl : ∀ b, easy V (crs V st ρ j).2.2.2 j = some b → b.1 < vN V ∧ b.2 ≤ 999 := fun b hb => saf_lt (b := b.1) (x := b.2) hV hok2 hb
          have hl9 := hV.2.2.2.1 j (by omega)
          have hwt2 : σ'.1 5 4 = nI (crs V st ρ j).1 := by rw [hF52.1 4 (by simp)]; exact hwt
          have hom2 : ∀ i, i < 12 → σ'.2.1 5 1 i = nI ((crs V st ρ j).2.2.1 i) := fun i hi => by rw [hF52.2]; exact hom i hi
          have hFa : FrG [kr, 5, kl] σ σ' := hF.tr (hF2.mono (by simp))
          have hFb : ∀ f, f ≠ 3 → f ≠ 4 → σ'.1 5 f = σ.1 5 f := fun f q1 q2 => by rw [hF52.1 f (by simpa using q1)]; exact hF5 f q1 q2
          refine go_istore (pc := 51) dX1_cross_51 (by decide) ?_
          refine go_iload (pc := 53) dX1_cross_53 rfl ?_
          refine go_iconst (-1) (pc := 55) dX1_cross_55 (by decide) ?_
          refine go_icmp_eq 174 (pc := 56) dX1_cross_56 (by decide) (fun h56 => ?_) (fun h56 => ?_)
          · rw [eM_n (fun b hb => by have := (hsl b hb).1; omega)] at h56
            have es : crs V st ρ (j + 1) = crs V st ρ j := by rw [crs]; rw [if_neg hstb, gos_none h56]
            refine go_iincN (pc := 174) dX1_cross_174 rfl (by decide) ?_
            refine go_goto 19 (pc := 177) dX1_cross_177 (by decide) ?_
            refine go_drop [0, 1, 2, 3, 4, 5] rfl ?_
            rw [← es]
            first
              | exact ih (vC V - (j + 1)) (by omega) (j + 1) rfl _ (by omega) (by rw [es]; exact hwt2) (by rw [es]; exact hom2) (by rw [es]; exact hT2) hFa hFb
              | exact ih (vC V - (j + 1)) (by omega) (j + 1) rfl _ (by omega) (by rw [es]; exact hwt) (by rw [es]; exact hom) (by rw [es]; exact hT) hF hF5
          · rw [eM_n (fun b hb => by have := (hsl b hb).1; omega)] at h56
            obtain ⟨⟨m, x⟩, he⟩ : ∃ b, easy V (crs V st ρ j).2.2.2 j = some b := by { cases hd : easy V (crs V st ρ j).2.2.2 j with | none => exact absurd hd h56 | some x => exact ⟨x, rfl⟩ }
            have hbl := hsl _ he
            dsimp only at hbl
            rw [he]
            dsimp only [eM]
            refine go_aload_n (i := 0) (pc := 59) dX1_cross_59 rfl rfl ?_
            refine go_aload_n (i := 2) (pc := 60) dX1_cross_60 rfl rfl ?_
            refine go_iload (pc := 61) dX1_cross_61 rfl ?_
            refine go_callV ml_X1_86 mt_X1_gain (pc := 63) dX1_cross_63 (c_X1_gain hT2 (by omega)) (by first | rfl | (apply zL_cq <;> assumption) | (apply zR_cq <;> assumption)) rfl (by first | rfl | (apply zL_in <;> first | assumption | decide) | (apply zR_in <;> first | assumption | decide)) (by decide) (by decide) rfl rfl (Nat.le_of_ble_eq_true rfl) (fun r σ' hp => ?_)
            obtain ⟨rfl, hσ⟩ := hp
            rw [hσ]
            clear hσ σ'
            dsimp only [zRet]
            refine go_aload_n (i := 0) (pc := 66) dX1_cross_66 rfl rfl ?_
            refine go_geti fl_X1_65 (pc := 67) dX1_cross_67 (by first | rfl | (apply zL_fi <;> first | assumption | decide) | (apply zR_fi <;> first | assumption | decide)) ?_
            rw [hD]
            refine go_icmp_gt 76 (pc := 70) dX1_cross_70 (by decide) (fun h70 => ?_) (fun h70 => ?_)
            · rw [he, eD, zi_Nlt (by omega), gI_toInt hl9.2.2 hok2.2.2.2.2.1 hok2.2.2.2.2.2.1] at h70
              have eg : gos V (crs V st ρ j).2.2.2 j = some m := by rw [gos_some he, if_pos (by omega)]
              refine go_aload_n (i := 0) (pc := 76) dX1_cross_76 rfl rfl ?_
              refine go_dup (pc := 77) dX1_cross_77 rfl ?_
              refine go_geti fl_X1_96 (pc := 78) dX1_cross_78 (by first | rfl | (apply zL_fi <;> first | assumption | decide) | (apply zR_fi <;> first | assumption | decide)) ?_
              rw [hwt2]
              refine go_iconst (nI 1) (pc := 81) dX1_cross_81 (by decide) ?_
              refine go_iload (pc := 82) dX1_cross_82 rfl ?_
              refine go_ishl (pc := 84) dX1_cross_84 ?_
              refine go_ior (pc := 85) dX1_cross_85 ?_
              rw [zor2 hqb (by omega)]
              refine go_puti fp_X1_96 (pc := 86) dX1_cross_86 (by first | rfl | (apply zL_fi <;> first | assumption | decide) | (apply zR_fi <;> first | assumption | decide)) rfl rfl ?_
              have et0 : crs V st ρ (j + 1) = ((crs V st ρ j).1 + 2 ^ j, (crs V st ρ j).2.1 + vL V j, if vK V j = 4 then (crs V st ρ j).2.2.1 else va_up (crs V st ρ j).2.2.1 m ((crs V st ρ j).2.2.1 m + vL V j), if vK V j = 1 then va_up (crs V st ρ j).2.2.2 m ((crs V st ρ j).2.2.2 m - 2) else (crs V st ρ j).2.2.2) := by
                rw [crs]
                rw [if_neg hstb, eg]
              have hT3 : WIs (uS σ' 5 4 (nI ((crs V st ρ j).1 + 2 ^ j))) kr kl V (crs V st ρ j).2.2.2 := hT2.fr (S := [5]) (FrG.rf.uS (by simp)) (by simp; omega)
              have hB3 := hT3.2.2.1
              have hFa3 : FrG [kr, 5, kl] σ (uS σ' 5 4 (nI ((crs V st ρ j).1 + 2 ^ j))) := hFa.uS (by simp)
              have hFb3 : ∀ f, f ≠ 3 → f ≠ 4 → (uS σ' 5 4 (nI ((crs V st ρ j).1 + 2 ^ j))).1 5 f = σ.1 5 f := fun f q1 q2 => by rw [uS_1, if_neg (by simp [q2])]; exact hFb f q1 q2
              have hA3 : (uS σ' 5 4 (nI ((crs V st ρ j).1 + 2 ^ j))).1 5 4 = nI ((crs V st ρ j).1 + 2 ^ j) := uS_s _ _ _ _
              have hO3 : ∀ i, i < 12 → (uS σ' 5 4 (nI ((crs V st ρ j).1 + 2 ^ j))).2.1 5 1 i = nI ((crs V st ρ j).2.2.1 i) := fun i hi => by rw [uS_2]; exact hom2 i hi
              generalize uS σ' 5 4 (nI ((crs V st ρ j).1 + 2 ^ j)) = τ3 at hT3 hB3 hFa3 hFb3 hA3 hO3 ⊢
              refine go_iload (pc := 89) dX1_cross_89 rfl ?_
              refine go_aload_n (i := 0) (pc := 91) dX1_cross_91 rfl rfl ?_
              refine go_getr2 fl_X1_15 (pc := 92) dX1_cross_92 (by first | rfl | (apply zL_ci <;> assumption) | (apply zR_ci <;> assumption)) (by first | rfl | (apply zL_in <;> first | assumption | decide) | (apply zR_in <;> first | assumption | decide)) (by first | rfl | (apply zL_fr0 <;> assumption) | (apply zL_fr1 <;> assumption) | (apply zR_fr0 <;> assumption) | (apply zR_fr1 <;> assumption) | (apply zR_fr2 <;> assumption) | (apply zR_fr3 <;> assumption)) ?_
              refine go_iload (pc := 95) dX1_cross_95 rfl ?_
              refine go_callV ml_X1_53 mt_X0_loadOf (pc := 97) dX1_cross_97 (c_X0_loadOf hB3 (by omega)) (by first | rfl | (apply zL_cq <;> assumption) | (apply zR_cq <;> assumption)) rfl (by first | rfl | (apply zL_in <;> first | assumption | decide) | (apply zR_in <;> first | assumption | decide)) (by decide) (by decide) rfl rfl (Nat.le_of_ble_eq_true rfl) (fun r σ' hp => ?_)
              obtain ⟨rfl, hσ⟩ := hp
              rw [hσ]
              clear hσ σ'
              dsimp only [zRet]
              first | with_reducible refine go_iaddN (pc := 100) dX1_cross_100 ?_ | refine go_iadd (pc := 100) dX1_cross_100 ?_
              refine go_istore (pc := 101) dX1_cross_101 (by decide) ?_
              refine go_aload_n (i := 0) (pc := 103) dX1_cross_103 rfl rfl ?_
              refine go_getr2 fl_X1_15 (pc := 104) dX1_cross_104 (by first | rfl | (apply zL_ci <;> assumption) | (apply zR_ci <;> assumption)) (by first | rfl | (apply zL_in <;> first | assumption | decide) | (apply zR_in <;> first | assumption | decide)) (by first | rfl | (apply zL_fr0 <;> assumption) | (apply zL_fr1 <;> assumption) | (apply zR_fr0 <;> assumption) | (apply zR_fr1 <;> assumption) | (apply zR_fr2 <;> assumption) | (apply zR_fr3 <;> assumption)) ?_
              refine go_iload (pc := 107) dX1_cross_107 rfl ?_
              refine go_callV ml_X1_23 mt_X0_kindOf (pc := 109) dX1_cross_109 (c_X0_kindOf hB3 (by omega)) (by first | rfl | (apply zL_cq <;> assumption) | (apply zR_cq <;> assumption)) rfl (by first | rfl | (apply zL_in <;> first | assumption | decide) | (apply zR_in <;> first | assumption | decide)) (by decide) (by decide) rfl rfl (Nat.le_of_ble_eq_true rfl) (fun r σ' hp => ?_)
              obtain ⟨rfl, hσ⟩ := hp
              rw [hσ]
              clear hσ σ'
              dsimp only [zRet]
              have hk4 := (hV.2.2.2.1 j (by omega)).1
              refine go_iconst (nI 4) (pc := 112) dX1_cross_112 (by decide) ?_
              refine go_icmp_eq 147 (pc := 113) dX1_cross_113 (by decide) (fun h113 => ?_) (fun h113 => ?_)
              · first | rw [nI_eq (by omega) (by omega)] at h113 | rw [zi_eqN (by omega)] at h113 | rw [zi_Neq (by omega)] at h113 | rw [zi_eq] at h113
                have hT4 := hT3
                have hFa4 := hFa3
                have hO4 := hO3
                have hA4 := hA3
                have hFb4 := hFb3
                rw [if_pos h113] at et0
                refine go_aload_n (i := 0) (pc := 147) dX1_cross_147 rfl rfl ?_
                refine go_getr2 fl_X1_15 (pc := 148) dX1_cross_148 (by first | rfl | (apply zL_ci <;> assumption) | (apply zR_ci <;> assumption)) (by first | rfl | (apply zL_in <;> first | assumption | decide) | (apply zR_in <;> first | assumption | decide)) (by first | rfl | (apply zL_fr0 <;> assumption) | (apply zL_fr1 <;> assumption) | (apply zR_fr0 <;> assumption) | (apply zR_fr1 <;> assumption) | (apply zR_fr2 <;> assumption) | (apply zR_fr3 <;> assumption)) ?_
                refine go_iload (pc := 151) dX1_cross_151 rfl ?_
                refine go_callV ml_X1_23 mt_X0_kindOf (pc := 153) dX1_cross_153 (c_X0_kindOf hT4.2.2.1 (by omega)) (by first | rfl | (apply zL_cq <;> assumption) | (apply zR_cq <;> assumption)) rfl (by first | rfl | (apply zL_in <;> first | assumption | decide) | (apply zR_in <;> first | assumption | decide)) (by decide) (by decide) rfl rfl (Nat.le_of_ble_eq_true rfl) (fun r σ' hp => ?_)
                obtain ⟨rfl, hσ⟩ := hp
                rw [hσ]
                clear hσ σ'
                dsimp only [zRet]
                refine go_iconst (nI 1) (pc := 156) dX1_cross_156 (by decide) ?_
                refine go_icmp_ne 174 (pc := 157) dX1_cross_157 (by decide) (fun h157 => ?_) (fun h157 => ?_)
                · first | rw [nI_eq (by omega) (by omega)] at h157 | rw [zi_eqN (by omega)] at h157 | rw [zi_Neq (by omega)] at h157 | rw [zi_eq] at h157
                  rw [if_neg h157] at et0
                  refine go_iincN (pc := 174) dX1_cross_174 rfl (by decide) ?_
                  refine go_goto 19 (pc := 177) dX1_cross_177 (by decide) ?_
                  refine go_drop [0, 1, 2, 3, 4, 5] rfl ?_
                  rw [show nI ((crs V st ρ j).2.1 + vL V j) = nI (crs V st ρ (j + 1)).2.1 by rw [et0]]
                  exact ih (vC V - (j + 1)) (by omega) (j + 1) rfl _ (by omega) (by rw [et0]; exact hA4) (by rw [et0]; exact hO4) (by rw [et0]; exact hT4) hFa4 hFb4
                · first | rw [nI_eq (by omega) (by omega)] at h157 | rw [zi_eqN (by omega)] at h157 | rw [zi_Neq (by omega)] at h157 | rw [zi_eq] at h157
                  have h157 : vK V j = 1 := by omega
                  refine go_aload_n (i := 2) (pc := 160) dX1_cross_160 rfl rfl ?_
                  refine go_iload (pc := 161) dX1_cross_161 rfl ?_
                  refine go_aload_n (i := 2) (pc := 163) dX1_cross_163 rfl rfl ?_
                  refine go_iload (pc := 164) dX1_cross_164 rfl ?_
                  refine go_callV ml_X1_39 mt_X2_hedgeAt (pc := 166) dX1_cross_166 (c_X2_hedgeAt h1 hT4.2.2.2.2 (by omega)) (by first | rfl | (apply zL_cq <;> assumption) | (apply zR_cq <;> assumption)) rfl (by first | rfl | (apply zL_in <;> first | assumption | decide) | (apply zR_in <;> first | assumption | decide)) (by decide) (by decide) rfl rfl (Nat.le_of_ble_eq_true rfl) (fun r σ' hp => ?_)
                  obtain ⟨rfl, hσ⟩ := hp
                  rw [hσ]
                  clear hσ σ'
                  dsimp only [zRet]
                  refine go_iconst (nI 2) (pc := 169) dX1_cross_169 (by decide) ?_
                  refine go_isub (pc := 170) dX1_cross_170 ?_
                  refine go_callV ml_X1_102 mt_X2_setHedge (pc := 171) dX1_cross_171 (c_X2_setHedge h1 hT4.2.2.2.2 (by omega)) (by first | rfl | (apply zL_cq <;> assumption) | (apply zR_cq <;> assumption)) rfl (by first | rfl | (apply zL_in <;> first | assumption | decide) | (apply zR_in <;> first | assumption | decide)) (by decide) (by decide) rfl rfl (Nat.le_of_ble_eq_true rfl) (fun r σ' hp => ?_)
                  obtain ⟨rfl, hL5, hf5⟩ := hp
                  dsimp only [zRet]
                  have h9m := hok2.2.2.1 m (by omega)
                  rw [clp_dn2 h9m] at hL5
                  rw [if_pos h157] at et0
                  refine go_iincN (pc := 174) dX1_cross_174 rfl (by decide) ?_
                  refine go_goto 19 (pc := 177) dX1_cross_177 (by decide) ?_
                  refine go_drop [0, 1, 2, 3, 4, 5] rfl ?_
                  rw [show nI ((crs V st ρ j).2.1 + vL V j) = nI (crs V st ρ (j + 1)).2.1 by rw [et0]]
                  refine ih (vC V - (j + 1)) (by omega) (j + 1) rfl _ (by omega) (by rw [et0, (hf5.1 5 (by simp; omega)).1]; exact hA4) (by rw [et0, (hf5.1 5 (by simp; omega)).2.1]; exact hO4) (by rw [et0]; exact hT4.ld hf5 hL5) (hFa4.tr (hf5.mono (by simp))) (fun f q1 q2 => by rw [(hf5.1 5 (by simp; omega)).1]; exact hFb4 f q1 q2)
              · first | rw [nI_eq (by omega) (by omega)] at h113 | rw [zi_eqN (by omega)] at h113 | rw [zi_Neq (by omega)] at h113 | rw [zi_eq] at h113
                refine go_iload (pc := 116) dX1_cross_116 rfl ?_
                refine go_if_lt 147 (pc := 118) dX1_cross_118 (by decide) (fun h118 => ?_) (fun h118 => ?_)
                · first | rw [zb_0d] at h118 | rw [zn_lt0 (by omega)] at h118 | rw [zi_lt0] at h118
                  exact h118.elim
                · first | rw [zb_0d] at h118 | rw [zn_lt0 (by omega)] at h118 | rw [zi_lt0] at h118
                  refine go_iload (pc := 121) dX1_cross_121 rfl ?_
                  refine go_bipush (nI 12) (pc := 123) dX1_cross_123 (by decide) ?_
                  refine go_icmp_ge 147 (pc := 125) dX1_cross_125 (by decide) (fun h125 => ?_) (fun h125 => ?_)
                  · first | rw [nI_leI (by omega) (by omega)] at h125 | rw [zi_leN (by omega)] at h125 | rw [zi_Nle (by omega)] at h125 | rw [zi_le] at h125
                    omega
                  · first | rw [nI_leI (by omega) (by omega)] at h125 | rw [zi_leN (by omega)] at h125 | rw [zi_Nle (by omega)] at h125 | rw [zi_le] at h125
                    refine go_aload_n (i := 0) (pc := 128) dX1_cross_128 rfl rfl ?_
                    refine go_getr2 fl_X1_9 (pc := 129) dX1_cross_129 (by first | rfl | (apply zL_ci <;> assumption) | (apply zR_ci <;> assumption)) (by first | rfl | (apply zL_in <;> first | assumption | decide) | (apply zR_in <;> first | assumption | decide)) (by first | rfl | (apply zL_fr0 <;> assumption) | (apply zL_fr1 <;> assumption) | (apply zR_fr0 <;> assumption) | (apply zR_fr1 <;> assumption) | (apply zR_fr2 <;> assumption) | (apply zR_fr3 <;> assumption)) ?_
                    refine go_iload (pc := 132) dX1_cross_132 rfl ?_
                    refine go_dup2 (pc := 134) dX1_cross_134 rfl rfl ?_
                    refine go_iaload m (pc := 135) dX1_cross_135 rfl rfl rfl (by omega) ?_
                    rw [hO3 m (by omega)]
                    refine go_aload_n (i := 0) (pc := 136) dX1_cross_136 rfl rfl ?_
                    refine go_getr2 fl_X1_15 (pc := 137) dX1_cross_137 (by first | rfl | (apply zL_ci <;> assumption) | (apply zR_ci <;> assumption)) (by first | rfl | (apply zL_in <;> first | assumption | decide) | (apply zR_in <;> first | assumption | decide)) (by first | rfl | (apply zL_fr0 <;> assumption) | (apply zL_fr1 <;> assumption) | (apply zR_fr0 <;> assumption) | (apply zR_fr1 <;> assumption) | (apply zR_fr2 <;> assumption) | (apply zR_fr3 <;> assumption)) ?_
                    refine go_iload (pc := 140) dX1_cross_140 rfl ?_
                    refine go_callV ml_X1_53 mt_X0_loadOf (pc := 142) dX1_cross_142 (c_X0_loadOf hB3 (by omega)) (by first | rfl | (apply zL_cq <;> assumption) | (apply zR_cq <;> assumption)) rfl (by first | rfl | (apply zL_in <;> first | assumption | decide) | (apply zR_in <;> first | assumption | decide)) (by decide) (by decide) rfl rfl (Nat.le_of_ble_eq_true rfl) (fun r σ' hp => ?_)
                    obtain ⟨rfl, hσ⟩ := hp
                    rw [hσ]
                    clear hσ σ'
                    dsimp only [zRet]
                    first | with_reducible refine go_iaddN (pc := 145) dX1_cross_145 ?_ | refine go_iadd (pc := 145) dX1_cross_145 ?_
                    refine go_iastore m (pc := 146) dX1_cross_146 rfl rfl rfl (by omega) ?_
                    have hT4 : WIs (uA τ3 5 1 (upd (τ3.2.1 5 1) m (nI ((crs V st ρ j).2.2.1 m + vL V j)))) kr kl V (crs V st ρ j).2.2.2 := hT3.fr (S := [5]) (FrG.rf.uA (by simp)) (by simp; omega)
                    have hFa4 : FrG [kr, 5, kl] σ (uA τ3 5 1 (upd (τ3.2.1 5 1) m (nI ((crs V st ρ j).2.2.1 m + vL V j)))) := hFa3.uA (by simp)
                    have hO4 : ∀ i, i < 12 → (uA τ3 5 1 (upd (τ3.2.1 5 1) m (nI ((crs V st ρ j).2.2.1 m + vL V j)))).2.1 5 1 i = nI (va_up (crs V st ρ j).2.2.1 m ((crs V st ρ j).2.2.1 m + vL V j) i) := fun i hi => by
                      rw [uA_s, upd_at, va_at']
                      split
                      · rfl
                      · exact hO3 i hi
                    have hA4 : (uA τ3 5 1 (upd (τ3.2.1 5 1) m (nI ((crs V st ρ j).2.2.1 m + vL V j)))).1 5 4 = nI ((crs V st ρ j).1 + 2 ^ j) := hA3
                    have hFb4 : ∀ f, f ≠ 3 → f ≠ 4 → (uA τ3 5 1 (upd (τ3.2.1 5 1) m (nI ((crs V st ρ j).2.2.1 m + vL V j)))).1 5 f = σ.1 5 f := hFb3
                    rw [if_neg h113] at et0
                    generalize uA τ3 5 1 (upd (τ3.2.1 5 1) m (nI ((crs V st ρ j).2.2.1 m + vL V j))) = τ4 at hT4 hFa4 hO4 hA4 hFb4 ⊢
                    refine go_aload_n (i := 0) (pc := 147) dX1_cross_147 rfl rfl ?_
                    refine go_getr2 fl_X1_15 (pc := 148) dX1_cross_148 (by first | rfl | (apply zL_ci <;> assumption) | (apply zR_ci <;> assumption)) (by first | rfl | (apply zL_in <;> first | assumption | decide) | (apply zR_in <;> first | assumption | decide)) (by first | rfl | (apply zL_fr0 <;> assumption) | (apply zL_fr1 <;> assumption) | (apply zR_fr0 <;> assumption) | (apply zR_fr1 <;> assumption) | (apply zR_fr2 <;> assumption) | (apply zR_fr3 <;> assumption)) ?_
                    refine go_iload (pc := 151) dX1_cross_151 rfl ?_
                    refine go_callV ml_X1_23 mt_X0_kindOf (pc := 153) dX1_cross_153 (c_X0_kindOf hT4.2.2.1 (by omega)) (by first | rfl | (apply zL_cq <;> assumption) | (apply zR_cq <;> assumption)) rfl (by first | rfl | (apply zL_in <;> first | assumption | decide) | (apply zR_in <;> first | assumption | decide)) (by decide) (by decide) rfl rfl (Nat.le_of_ble_eq_true rfl) (fun r σ' hp => ?_)
                    obtain ⟨rfl, hσ⟩ := hp
                    rw [hσ]
                    clear hσ σ'
                    dsimp only [zRet]
                    refine go_iconst (nI 1) (pc := 156) dX1_cross_156 (by decide) ?_
                    refine go_icmp_ne 174 (pc := 157) dX1_cross_157 (by decide) (fun h157 => ?_) (fun h157 => ?_)
                    · first | rw [nI_eq (by omega) (by omega)] at h157 | rw [zi_eqN (by omega)] at h157 | rw [zi_Neq (by omega)] at h157 | rw [zi_eq] at h157
                      rw [if_neg h157] at et0
                      refine go_iincN (pc := 174) dX1_cross_174 rfl (by decide) ?_
                      refine go_goto 19 (pc := 177) dX1_cross_177 (by decide) ?_
                      refine go_drop [0, 1, 2, 3, 4, 5] rfl ?_
                      rw [show nI ((crs V st ρ j).2.1 + vL V j) = nI (crs V st ρ (j + 1)).2.1 by rw [et0]]
                      exact ih (vC V - (j + 1)) (by omega) (j + 1) rfl _ (by omega) (by rw [et0]; exact hA4) (by rw [et0]; exact hO4) (by rw [et0]; exact hT4) hFa4 hFb4
                    · first | rw [nI_eq (by omega) (by omega)] at h157 | rw [zi_eqN (by omega)] at h157 | rw [zi_Neq (by omega)] at h157 | rw [zi_eq] at h157
                      have h157 : vK V j = 1 := by omega
                      refine go_aload_n (i := 2) (pc := 160) dX1_cross_160 rfl rfl ?_
                      refine go_iload (pc := 161) dX1_cross_161 rfl ?_
                      refine go_aload_n (i := 2) (pc := 163) dX1_cross_163 rfl rfl ?_
                      refine go_iload (pc := 164) dX1_cross_164 rfl ?_
                      refine go_callV ml_X1_39 mt_X2_hedgeAt (pc := 166) dX1_cross_166 (c_X2_hedgeAt h1 hT4.2.2.2.2 (by omega)) (by first | rfl | (apply zL_cq <;> assumption) | (apply zR_cq <;> assumption)) rfl (by first | rfl | (apply zL_in <;> first | assumption | decide) | (apply zR_in <;> first | assumption | decide)) (by decide) (by decide) rfl rfl (Nat.le_of_ble_eq_true rfl) (fun r σ' hp => ?_)
                      obtain ⟨rfl, hσ⟩ := hp
                      rw [hσ]
                      clear hσ σ'
                      dsimp only [zRet]
                      refine go_iconst (nI 2) (pc := 169) dX1_cross_169 (by decide) ?_
                      refine go_isub (pc := 170) dX1_cross_170 ?_
                      refine go_callV ml_X1_102 mt_X2_setHedge (pc := 171) dX1_cross_171 (c_X2_setHedge h1 hT4.2.2.2.2 (by omega)) (by first | rfl | (apply zL_cq <;> assumption) | (apply zR_cq <;> assumption)) rfl (by first | rfl | (apply zL_in <;> first | assumption | decide) | (apply zR_in <;> first | assumption | decide)) (by decide) (by decide) rfl rfl (Nat.le_of_ble_eq_true rfl) (fun r σ' hp => ?_)
                      obtain ⟨rfl, hL5, hf5⟩ := hp
                      dsimp only [zRet]
                      have h9m := hok2.2.2.1 m (by omega)
                      rw [clp_dn2 h9m] at hL5
                      rw [if_pos h157] at et0
                      refine go_iincN (pc := 174) dX1_cross_174 rfl (by decide) ?_
                      refine go_goto 19 (pc := 177) dX1_cross_177 (by decide) ?_
                      refine go_drop [0, 1, 2, 3, 4, 5] rfl ?_
                      rw [show nI ((crs V st ρ j).2.1 + vL V j) = nI (crs V st ρ (j + 1)).2.1 by rw [et0]]
                      refine ih (vC V - (j + 1)) (by omega) (j + 1) rfl _ (by omega) (by rw [et0, (hf5.1 5 (by simp; omega)).1]; exact hA4) (by rw [et0, (hf5.1 5 (by simp; omega)).2.1]; exact hO4) (by rw [et0]; exact hT4.ld hf5 hL5) (hFa4.tr (hf5.mono (by simp))) (fun f q1 q2 => by rw [(hf5.1 5 (by simp; omega)).1]; exact hFb4 f q1 q2)
            · rw [he, eD, zi_Nlt (by omega), gI_toInt hl9.2.2 hok2.2.2.2.2.1 hok2.2.2.2.2.2.1] at h70
              have eg : gos V (crs V st ρ j).2.2.2 j = none := by rw [gos_some he, if_neg (by omega)]
              have es : crs V st ρ (j + 1) = crs V st ρ j := by rw [crs]; rw [if_neg hstb, eg]
              refine go_goto 174 (pc := 73) dX1_cross_73 (by decide) ?_
              refine go_iincN (pc := 174) dX1_cross_174 rfl (by decide) ?_
              refine go_goto 19 (pc := 177) dX1_cross_177 (by decide) ?_
              refine go_drop [0, 1, 2, 3, 4, 5] rfl ?_
              rw [← es]
              first
                | exact ih (vC V - (j + 1)) (by omega) (j + 1) rfl _ (by omega) (by rw [es]; exact hwt2) (by rw [es]; exact hom2) (by rw [es]; exact hT2) hFa hFb
                | exact ih (vC V - (j + 1)) (by omega) (j + 1) rfl _ (by omega) (by rw [es]; exact hwt) (by rw [es]; exact hom) (by rw [es]; exact hT) hF hF5
        · rw [nI_if] at h37
          have hstb : st.testBit j = true := Decidable.not_not.mp h37
          have es : crs V st ρ (j + 1) = crs V st ρ j := by rw [crs]; rw [if_pos hstb]
          refine go_goto 174 (pc := 40) dX1_cross_40 (by decide) ?_
          refine go_iincN (pc := 174) dX1_cross_174 rfl (by decide) ?_
          refine go_goto 19 (pc := 177) dX1_cross_177 (by decide) ?_
          refine go_drop [0, 1, 2, 3, 4, 5] rfl ?_
          rw [← es]
          first
            | exact ih (vC V - (j + 1)) (by omega) (j + 1) rfl _ (by omega) (by rw [es]; exact hwt2) (by rw [es]; exact hom2) (by rw [es]; exact hT2) hFa hFb
            | exact ih (vC V - (j + 1)) (by omega) (j + 1) rfl _ (by omega) (by rw [es]; exact hwt) (by rw [es]; exact hom) (by rw [es]; exact hT) hF hF5
  refine go_aload_n (i := 0) (pc := 0) dX1_cross_0 rfl rfl ?_
  refine go_getr2 fl_X1_9 (pc := 1) dX1_cross_1 (by first | rfl | (apply zL_ci <;> assumption) | (apply zR_ci <;> assumption)) (by first | rfl | (apply zL_in <;> first | assumption | decide) | (apply zR_in <;> first | assumption | decide)) (by first | rfl | (apply zL_fr0 <;> assumption) | (apply zL_fr1 <;> assumption) | (apply zR_fr0 <;> assumption) | (apply zR_fr1 <;> assumption) | (apply zR_fr2 <;> assumption) | (apply zR_fr3 <;> assumption)) ?_
  refine go_iconst (nI 0) (pc := 4) dX1_cross_4 (by decide) ?_
  refine go_callS ml_X1_90 mt_J7_fill_53178 (pc := 5) dX1_cross_5 (c_J7_fill_53178 rfl rfl) (by decide) (by decide) rfl rfl (Nat.le_of_ble_eq_true rfl) (fun r σ' hp => ?_)
  obtain ⟨rfl, g0, rfl, hg0⟩ := hp
  dsimp only [zRet]
  refine go_aload_n (i := 0) (pc := 8) dX1_cross_8 rfl rfl ?_
  refine go_iconst (nI 0) (pc := 9) dX1_cross_9 (by decide) ?_
  refine go_puti fp_X1_96 (pc := 10) dX1_cross_10 (by first | rfl | (apply zL_fi <;> first | assumption | decide) | (apply zR_fi <;> first | assumption | decide)) rfl rfl ?_
  refine go_iconst (nI 0) (pc := 13) dX1_cross_13 (by decide) ?_
  refine go_istore (pc := 14) dX1_cross_14 (by decide) ?_
  refine go_iconst (nI 0) (pc := 16) dX1_cross_16 (by decide) ?_
  refine go_istore (pc := 17) dX1_cross_17 (by decide) ?_
  exact loop 0 _ (by omega) (by rw [uS_s]; rfl) (fun i hi => by rw [uS_2, uA_s, hg0 i hi]; rfl) (hW.fr (S := [5]) ((FrG.rf.uA (by simp)).uS (by simp)) (by simp; omega)) ((FrG.rf.uA (by simp)).uS (by simp)) (fun f q1 q2 => by rw [uS_1, if_neg (by simp [q2])]; rfl)

