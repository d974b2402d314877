/-- an entry of a sheet -/
def ent (k v : Int32) : Int32 := if k.toInt = 0 then v.toInt8.toInt32 else if k.toInt = 1 then v.toInt16.toInt32 else v
/-- hedges of a sheet -/
def shE (k n f s : Int32) (m : Nat) : Nat := if k.toInt = 3 ∨ n.toInt ≤ (m : Int) then 0 else clp (ent k (f + nI m * s)) 9
def shR (k n f s : Int32) (ρ : Nat → Nat) (i : Nat) : Nat → Nat := fun j => if j < i then shE k n f s j else ρ j
theorem shR_up (k n f s : Int32) (ρ : Nat → Nat) (i : Nat) : va_up (shR k n f s ρ i) i (shE k n f s i) = shR k n f s ρ (i + 1) := by
  funext j
  rw [va_at']
  unfold shR
  by_cases h : j = i
  · rw [if_pos h, if_pos (by omega), h]
  · rw [if_neg h]
    by_cases h2 : j < i
    · rw [if_pos h2, if_pos (by omega)]
    · rw [if_neg h2, if_neg (by omega)]
theorem shR_0 (k n f s : Int32) (ρ : Nat → Nat) : shR k n f s ρ 0 = ρ := by funext j; exact if_neg (by omega)
/-- what a sheet answers and does: 0 refused -/
def shA (n : Nat) (ρ : Nat → Nat) (k e f s : Int32) : Int32 × (Nat → Nat) := if k.toInt < 0 ∨ 3 < k.toInt ∨ 12 < e.toInt then (-1, ρ) else if k.toInt < 3 ∧ e.toInt < 0 then (-2, ρ) else (if k.toInt = 3 then -3 else nI (hedSum n (shR k e f s ρ n)), shR k e f s ρ n)

theorem c_X11_entry {E : zE} {σ : zT} {k v : Int32}  : CalM E 0 yX11_entry cX11_entry 2 (some .int) [.int k, .int v] σ (fun r σ' => r = some (.int (ent k v)) ∧ σ' = σ) := by
  refine cal_of_go (own := RX11) rfl (by decide +kernel) (Nat.le_of_ble_eq_true rfl) ?_
  refine go_iload_n (i := 0) (pc := 0) dX11_entry_0 rfl rfl ?_
  refine go_if_ne 7 (pc := 1) dX11_entry_1 (by decide) (fun h1 => ?_) (fun h1 => ?_)
  · first | rw [zb_0d] at h1 | rw [zn_eq0 (by omega)] at h1 | rw [zi_eq0] at h1
    refine go_iload_n (i := 0) (pc := 7) dX11_entry_7 rfl rfl ?_
    refine go_iconst (nI 1) (pc := 8) dX11_entry_8 (by decide) ?_
    refine go_icmp_ne 17 (pc := 9) dX11_entry_9 (by decide) (fun h9 => ?_) (fun h9 => ?_)
    · first | rw [nI_eq (by omega) (by omega)] at h9 | rw [zi_eqN (by omega)] at h9 | rw [zi_Neq (by omega)] at h9 | rw [zi_eq] at h9
      refine go_iload_n (i := 1) (pc := 17) dX11_entry_17 rfl rfl ?_
      refine go_ireturn (pc := 18) dX11_entry_18 rfl ?_
      unfold ent
      first
        | (rw [if_pos (by omega)]; exact ⟨rfl, rfl⟩)
        | (rw [if_neg (by omega), if_pos (by omega)]; exact ⟨rfl, rfl⟩)
        | (rw [if_neg (by omega), if_neg (by omega)]; exact ⟨rfl, rfl⟩)
    · first | rw [nI_eq (by omega) (by omega)] at h9 | rw [zi_eqN (by omega)] at h9 | rw [zi_Neq (by omega)] at h9 | rw [zi_eq] at h9
      refine go_iload_n (i := 1) (pc := 12) dX11_entry_12 rfl rfl ?_
      refine go_i2s (pc := 13) dX11_entry_13 ?_
      refine go_goto 18 (pc := 14) dX11_entry_14 (by decide) ?_
      refine go_ireturn (pc := 18) dX11_entry_18 rfl ?_
      unfold ent
      first
        | (rw [if_pos (by omega)]; exact ⟨rfl, rfl⟩)
        | (rw [if_neg (by omega), if_pos (by omega)]; exact ⟨rfl, rfl⟩)
        | (rw [if_neg (by omega), if_neg (by omega)]; exact ⟨rfl, rfl⟩)
  · first | rw [zb_0d] at h1 | rw [zn_eq0 (by omega)] at h1 | rw [zi_eq0] at h1
    refine go_iload_n (i := 1) (pc := 4) dX11_entry_4 rfl rfl ?_
    refine go_i2b (pc := 5) dX11_entry_5 ?_
    refine go_ireturn (pc := 6) dX11_entry_6 rfl ?_
    unfold ent
    first
      | (rw [if_pos (by omega)]; exact ⟨rfl, rfl⟩)
      | (rw [if_neg (by omega), if_pos (by omega)]; exact ⟨rfl, rfl⟩)
      | (rw [if_neg (by omega), if_neg (by omega)]; exact ⟨rfl, rfl⟩)

theorem c_X11_sheet {E : zE} {σ : zT} {tx : Nat × (Nat → Nat)} {bd : Nat × (Nat → Nat) × (Nat → Nat)} {sk : Nat × (Nat → Nat)} {tw : Nat × (Nat → Nat) × (Nat → Nat)} {xs : List Nat} {ld : Nat × (Nat → Nat)} {pa sh : Nat × (Nat → Nat → Nat)} {ru : Nat × (Nat → Nat) × (Nat → Nat)} {to : Nat × (Nat → Int64)} {k n f s : Int32} (hC : ClsIs σ tx bd sk tw xs ld pa sh ru to) : CalM E 3 yX11_sheet cX11_sheet 7 (some .int) [.ref (zA E 0 0), .int k, .int n, .int f, .int s] σ (fun r σ' => r = some (.int (shA ld.1 ld.2 k n f s).1) ∧ ClsIs σ' tx bd sk tw xs (ld.1, (shA ld.1 ld.2 k n f s).2) pa sh ru to ∧ Fr33 σ σ') := by
  refine cal_of_go (own := RX11) rfl (by decide +kernel) (Nat.le_of_ble_eq_true rfl) ?_
  have hL := hC.2.2.2.2.2.1
  have hn := hL.b
  have hok := hL.1
  have hB0 := hC.2.2.1
  have hnc := hB0.1
  have main : ∀ q : Int32, 0 ≤ k.toInt → k.toInt ≤ 3 → n.toInt ≤ 12 → (∀ m : Nat, m < 12 → (q ≤ nI m ↔ k.toInt = 3 ∨ n.toInt ≤ (m : Int))) → GoM E 3 RX11 cX11_sheet 7 (some .int) (fun r σ' => r = some (.int (if k.toInt = 3 then -3 else nI (hedSum ld.1 (shR k n f s ld.2 ld.1)))) ∧ ClsIs σ' tx bd sk tw xs (ld.1, shR k n f s ld.2 ld.1) pa sh ru to ∧ Fr33 σ σ') σ 41 [(0, .ref (zA E 0 0)), (1, .int k), (2, .int n), (3, .int f), (4, .int s), (5, .int q)] [] := by
    intro q hk0 hk3 hn12 hq
    have loop : ∀ (i : Nat) (τ : zT), i ≤ ld.1 → (ClsIs τ tx bd sk tw xs (ld.1, shR k n f s ld.2 i) pa sh ru to) → (Fr33 σ τ) → GoM E 3 RX11 cX11_sheet 7 (some .int) (fun r σ' => r = some (.int (if k.toInt = 3 then -3 else nI (hedSum ld.1 (shR k n f s ld.2 ld.1)))) ∧ ClsIs σ' tx bd sk tw xs (ld.1, shR k n f s ld.2 ld.1) pa sh ru to ∧ Fr33 σ σ') τ 44 [(0, .ref (zA E 0 0)), (1, .int k), (2, .int n), (3, .int f), (4, .int s), (5, .int q), (6, .int (nI i))] [] := by
      intro i
      induction hj : ld.1 - i using Nat.strongRecOn generalizing i with
      | ind z ih =>
        intro τ hi hCt hF
        have hLt := hCt.2.2.2.2.2.1
        refine go_iload (pc := 44) dX11_sheet_44 rfl ?_
        refine go_aload_n (i := 0) (pc := 46) dX11_sheet_46 rfl rfl ?_
        refine go_getr2 fl_X11_49 (pc := 47) dX11_sheet_47 (by first | rfl | (apply zL_ci <;> assumption) | (apply zR_ci <;> assumption)) (by first | rfl | (apply zL_in <;> first | assumption | decide) | (apply zR_in <;> first | assumption | decide)) (by first | rfl | (apply zL_fr0 <;> assumption) | (apply zL_fr1 <;> assumption) | (apply zR_fr0 <;> assumption) | (apply zR_fr1 <;> assumption) | (apply zR_fr2 <;> assumption) | (apply zR_fr3 <;> assumption)) ?_
        refine go_callV ml_X11_127 mt_X2_miles (pc := 50) dX11_sheet_50 (c_X2_miles rfl hLt) (by first | rfl | (apply zL_cq <;> assumption) | (apply zR_cq <;> assumption)) rfl (by first | rfl | (apply zL_in <;> first | assumption | decide) | (apply zR_in <;> first | assumption | decide)) (by decide) (by decide) rfl rfl (Nat.le_of_ble_eq_true rfl) (fun r σ' hp => ?_)
        obtain ⟨rfl, hσ⟩ := hp
        rw [hσ]
        clear hσ σ'
        dsimp only [zRet]
        refine go_icmp_ge 93 (pc := 53) dX11_sheet_53 (by decide) (fun h53 => ?_) (fun h53 => ?_)
        · first | rw [nI_leI (by omega) (by omega)] at h53 | rw [zi_leN (by omega)] at h53 | rw [zi_Nle (by omega)] at h53 | rw [zi_le] at h53
          have ei : i = ld.1 := by omega
          subst ei
          refine go_iload_n (i := 1) (pc := 93) dX11_sheet_93 rfl rfl ?_
          refine go_iconst (nI 3) (pc := 94) dX11_sheet_94 (by decide) ?_
          refine go_icmp_ne 103 (pc := 95) dX11_sheet_95 (by decide) (fun h95 => ?_) (fun h95 => ?_)
          · first | rw [nI_eq (by omega) (by omega)] at h95 | rw [zi_eqN (by omega)] at h95 | rw [zi_Neq (by omega)] at h95 | rw [zi_eq] at h95
            refine go_aload_n (i := 0) (pc := 103) dX11_sheet_103 rfl rfl ?_
            refine go_getr2 fl_X11_49 (pc := 104) dX11_sheet_104 (by first | rfl | (apply zL_ci <;> assumption) | (apply zR_ci <;> assumption)) (by first | rfl | (apply zL_in <;> first | assumption | decide) | (apply zR_in <;> first | assumption | decide)) (by first | rfl | (apply zL_fr0 <;> assumption) | (apply zL_fr1 <;> assumption) | (apply zR_fr0 <;> assumption) | (apply zR_fr1 <;> assumption) | (apply zR_fr2 <;> assumption) | (apply zR_fr3 <;> assumption)) ?_
            refine go_callV ml_X11_195 mt_X2_allHedges (pc := 107) dX11_sheet_107 (c_X2_allHedges rfl hLt) (by first | rfl | (apply zL_cq <;> assumption) | (apply zR_cq <;> assumption)) rfl (by first | rfl | (apply zL_in <;> first | assumption | decide) | (apply zR_in <;> first | assumption | decide)) (by decide) (by decide) rfl rfl (Nat.le_of_ble_eq_true rfl) (fun r σ' hp => ?_)
            obtain ⟨rfl, hσ⟩ := hp
            rw [hσ]
            clear hσ σ'
            dsimp only [zRet]
            refine go_ireturn (pc := 110) dX11_sheet_110 rfl ?_
            rw [if_neg (by omega)]
            exact ⟨rfl, hCt, hF⟩
          · first | rw [nI_eq (by omega) (by omega)] at h95 | rw [zi_eqN (by omega)] at h95 | rw [zi_Neq (by omega)] at h95 | rw [zi_eq] at h95
            refine go_bipush (-3) (pc := 98) dX11_sheet_98 (by decide) ?_
            refine go_goto 110 (pc := 100) dX11_sheet_100 (by decide) ?_
            refine go_ireturn (pc := 110) dX11_sheet_110 rfl ?_
            rw [if_pos (by omega)]
            exact ⟨rfl, hCt, hF⟩
        · first | rw [nI_leI (by omega) (by omega)] at h53 | rw [zi_leN (by omega)] at h53 | rw [zi_Nle (by omega)] at h53 | rw [zi_le] at h53
          refine go_aload_n (i := 0) (pc := 56) dX11_sheet_56 rfl rfl ?_
          refine go_getr2 fl_X11_49 (pc := 57) dX11_sheet_57 (by first | rfl | (apply zL_ci <;> assumption) | (apply zR_ci <;> assumption)) (by first | rfl | (apply zL_in <;> first | assumption | decide) | (apply zR_in <;> first | assumption | decide)) (by first | rfl | (apply zL_fr0 <;> assumption) | (apply zL_fr1 <;> assumption) | (apply zR_fr0 <;> assumption) | (apply zR_fr1 <;> assumption) | (apply zR_fr2 <;> assumption) | (apply zR_fr3 <;> assumption)) ?_
          refine go_iload (pc := 60) dX11_sheet_60 rfl ?_
          refine go_iload (pc := 62) dX11_sheet_62 rfl ?_
          refine go_iload (pc := 64) dX11_sheet_64 rfl ?_
          refine go_icmp_ge 83 (pc := 66) dX11_sheet_66 (by decide) (fun h66 => ?_) (fun h66 => ?_)
          · rw [hq i (by omega)] at h66
            have ec : clp (nI 0) 9 = shE k n f s i := by unfold shE; rw [if_pos h66]; rfl
            refine go_iconst (nI 0) (pc := 83) dX11_sheet_83 (by decide) ?_
            refine go_callV ml_X11_191 mt_X2_setHedge (pc := 84) dX11_sheet_84 (c_X2_setHedge rfl hLt (by omega : i < ld.1)) (by first | rfl | (apply zL_cq <;> assumption) | (apply zR_cq <;> assumption)) rfl (by first | rfl | (apply zL_in <;> first | assumption | decide) | (apply zR_in <;> first | assumption | decide)) (by decide) (by decide) rfl rfl (Nat.le_of_ble_eq_true rfl) (fun r σ' hp => ?_)
            obtain ⟨rfl, hL2, hf⟩ := hp
            dsimp only [zRet]
            rw [ec, shR_up] at hL2
            have hC2 := hCt.setL (ld := (ld.1, shR k n f s ld.2 i)) hf hL2
            have hF2 := hF.tr (Fr33.of hf (by simp))
            refine go_iincN (pc := 87) dX11_sheet_87 rfl (by decide) ?_
            refine go_goto 44 (pc := 90) dX11_sheet_90 (by decide) ?_
            exact ih (ld.1 - (i + 1)) (by omega) (i + 1) rfl _ (by omega) hC2 hF2
          · rw [hq i (by omega)] at h66
            have ec : clp (ent k (f + nI i * s)) 9 = shE k n f s i := by unfold shE; rw [if_neg h66]
            refine go_iload_n (i := 1) (pc := 69) dX11_sheet_69 rfl rfl ?_
            refine go_iload_n (i := 3) (pc := 70) dX11_sheet_70 rfl rfl ?_
            refine go_iload (pc := 71) dX11_sheet_71 rfl ?_
            refine go_iload (pc := 73) dX11_sheet_73 rfl ?_
            refine go_imul (pc := 75) dX11_sheet_75 ?_
            refine go_iadd (pc := 76) dX11_sheet_76 ?_
            refine go_callS ml_X11_187 mt_X11_entry (pc := 77) dX11_sheet_77 (c_X11_entry) (by decide) (by decide) rfl rfl (Nat.le_of_ble_eq_true rfl) (fun r σ' hp => ?_)
            obtain ⟨rfl, hσ⟩ := hp
            rw [hσ]
            clear hσ σ'
            dsimp only [zRet]
            refine go_goto 84 (pc := 80) dX11_sheet_80 (by decide) ?_
            refine go_callV ml_X11_191 mt_X2_setHedge (pc := 84) dX11_sheet_84 (c_X2_setHedge rfl hLt (by omega : i < ld.1)) (by first | rfl | (apply zL_cq <;> assumption) | (apply zR_cq <;> assumption)) rfl (by first | rfl | (apply zL_in <;> first | assumption | decide) | (apply zR_in <;> first | assumption | decide)) (by decide) (by decide) rfl rfl (Nat.le_of_ble_eq_true rfl) (fun r σ' hp => ?_)
            obtain ⟨rfl, hL2, hf⟩ := hp
            dsimp only [zRet]
            rw [ec, shR_up] at hL2
            have hC2 := hCt.setL (ld := (ld.1, shR k n f s ld.2 i)) hf hL2
            have hF2 := hF.tr (Fr33.of hf (by simp))
            refine go_iincN (pc := 87) dX11_sheet_87 rfl (by decide) ?_
            refine go_goto 44 (pc := 90) dX11_sheet_90 (by decide) ?_
            exact ih (ld.1 - (i + 1)) (by omega) (i + 1) rfl _ (by omega) hC2 hF2
    refine go_iconst (nI 0) (pc := 41) dX11_sheet_41 (by decide) ?_
    refine go_istore (pc := 42) dX11_sheet_42 (by decide) ?_
    exact loop 0 _ (by omega) (by rw [shR_0]; exact hC) Fr33.rf
  refine go_iload_n (i := 1) (pc := 0) dX11_sheet_0 rfl rfl ?_
  refine go_if_lt 15 (pc := 1) dX11_sheet_1 (by decide) (fun h1 => ?_) (fun h1 => ?_)
  · first | rw [zb_0d] at h1 | rw [zn_lt0 (by omega)] at h1 | rw [zi_lt0] at h1
    refine go_iconst (-1) (pc := 15) dX11_sheet_15 (by decide) ?_
    refine go_ireturn (pc := 16) dX11_sheet_16 rfl ?_
    unfold shA
    rw [if_pos (by omega)]
    exact ⟨rfl, hC, Fr33.rf⟩
  · first | rw [zb_0d] at h1 | rw [zn_lt0 (by omega)] at h1 | rw [zi_lt0] at h1
    refine go_iload_n (i := 1) (pc := 4) dX11_sheet_4 rfl rfl ?_
    refine go_iconst (nI 3) (pc := 5) dX11_sheet_5 (by decide) ?_
    refine go_icmp_gt 15 (pc := 6) dX11_sheet_6 (by decide) (fun h6 => ?_) (fun h6 => ?_)
    · first | rw [nI_ltI (by omega) (by omega)] at h6 | rw [zi_ltN (by omega)] at h6 | rw [zi_Nlt (by omega)] at h6 | rw [zi_lt] at h6
      refine go_iconst (-1) (pc := 15) dX11_sheet_15 (by decide) ?_
      refine go_ireturn (pc := 16) dX11_sheet_16 rfl ?_
      unfold shA
      rw [if_pos (by omega)]
      exact ⟨rfl, hC, Fr33.rf⟩
    · first | rw [nI_ltI (by omega) (by omega)] at h6 | rw [zi_ltN (by omega)] at h6 | rw [zi_Nlt (by omega)] at h6 | rw [zi_lt] at h6
      refine go_iload_n (i := 2) (pc := 9) dX11_sheet_9 rfl rfl ?_
      refine go_bipush (nI 12) (pc := 10) dX11_sheet_10 (by decide) ?_
      refine go_icmp_le 17 (pc := 12) dX11_sheet_12 (by decide) (fun h12 => ?_) (fun h12 => ?_)
      · first | rw [nI_leI (by omega) (by omega)] at h12 | rw [zi_leN (by omega)] at h12 | rw [zi_Nle (by omega)] at h12 | rw [zi_le] at h12
        refine go_iload_n (i := 1) (pc := 17) dX11_sheet_17 rfl rfl ?_
        refine go_iconst (nI 3) (pc := 18) dX11_sheet_18 (by decide) ?_
        refine go_icmp_ge 29 (pc := 19) dX11_sheet_19 (by decide) (fun h19 => ?_) (fun h19 => ?_)
        · first | rw [nI_leI (by omega) (by omega)] at h19 | rw [zi_leN (by omega)] at h19 | rw [zi_Nle (by omega)] at h19 | rw [zi_le] at h19
          refine go_iload_n (i := 1) (pc := 29) dX11_sheet_29 rfl rfl ?_
          refine go_iconst (nI 3) (pc := 30) dX11_sheet_30 (by decide) ?_
          refine go_icmp_ne 38 (pc := 31) dX11_sheet_31 (by decide) (fun h31 => ?_) (fun h31 => ?_)
          · first | rw [nI_eq (by omega) (by omega)] at h31 | rw [zi_eqN (by omega)] at h31 | rw [zi_Neq (by omega)] at h31 | rw [zi_eq] at h31
            refine go_iload_n (i := 2) (pc := 38) dX11_sheet_38 rfl rfl ?_
            refine go_istore (pc := 39) dX11_sheet_39 (by decide) ?_
            have h1 : ¬ (k.toInt < 0 ∨ 3 < k.toInt ∨ 12 < n.toInt) := by omega
            have h2 : ¬ (k.toInt < 3 ∧ n.toInt < 0) := by omega
            unfold shA
            rw [if_neg h1, if_neg h2]
            refine main _ (by omega) (by omega) (by omega) (fun m hm => ?_)
            first
              | (rw [nI_leI (by omega) (by omega)]; omega)
              | (rw [zi_leN (by omega)]; omega)
          · first | rw [nI_eq (by omega) (by omega)] at h31 | rw [zi_eqN (by omega)] at h31 | rw [zi_Neq (by omega)] at h31 | rw [zi_eq] at h31
            refine go_iconst (nI 0) (pc := 34) dX11_sheet_34 (by decide) ?_
            refine go_goto 39 (pc := 35) dX11_sheet_35 (by decide) ?_
            refine go_istore (pc := 39) dX11_sheet_39 (by decide) ?_
            have h1 : ¬ (k.toInt < 0 ∨ 3 < k.toInt ∨ 12 < n.toInt) := by omega
            have h2 : ¬ (k.toInt < 3 ∧ n.toInt < 0) := by omega
            unfold shA
            rw [if_neg h1, if_neg h2]
            refine main _ (by omega) (by omega) (by omega) (fun m hm => ?_)
            first
              | (rw [nI_leI (by omega) (by omega)]; omega)
              | (rw [zi_leN (by omega)]; omega)
        · first | rw [nI_leI (by omega) (by omega)] at h19 | rw [zi_leN (by omega)] at h19 | rw [zi_Nle (by omega)] at h19 | rw [zi_le] at h19
          refine go_iload_n (i := 2) (pc := 22) dX11_sheet_22 rfl rfl ?_
          refine go_if_ge 29 (pc := 23) dX11_sheet_23 (by decide) (fun h23 => ?_) (fun h23 => ?_)
          · first | rw [zb_0d] at h23 | rw [zn_ge0 (by omega)] at h23 | rw [zi_ge0] at h23
            refine go_iload_n (i := 1) (pc := 29) dX11_sheet_29 rfl rfl ?_
            refine go_iconst (nI 3) (pc := 30) dX11_sheet_30 (by decide) ?_
            refine go_icmp_ne 38 (pc := 31) dX11_sheet_31 (by decide) (fun h31 => ?_) (fun h31 => ?_)
            · first | rw [nI_eq (by omega) (by omega)] at h31 | rw [zi_eqN (by omega)] at h31 | rw [zi_Neq (by omega)] at h31 | rw [zi_eq] at h31
              refine go_iload_n (i := 2) (pc := 38) dX11_sheet_38 rfl rfl ?_
              refine go_istore (pc := 39) dX11_sheet_39 (by decide) ?_
              have h1 : ¬ (k.toInt < 0 ∨ 3 < k.toInt ∨ 12 < n.toInt) := by omega
              have h2 : ¬ (k.toInt < 3 ∧ n.toInt < 0) := by omega
              unfold shA
              rw [if_neg h1, if_neg h2]
              refine main _ (by omega) (by omega) (by omega) (fun m hm => ?_)
              first
                | (rw [nI_leI (by omega) (by omega)]; omega)
                | (rw [zi_leN (by omega)]; omega)
            · first | rw [nI_eq (by omega) (by omega)] at h31 | rw [zi_eqN (by omega)] at h31 | rw [zi_Neq (by omega)] at h31 | rw [zi_eq] at h31
              refine go_iconst (nI 0) (pc := 34) dX11_sheet_34 (by decide) ?_
              refine go_goto 39 (pc := 35) dX11_sheet_35 (by decide) ?_
              refine go_istore (pc := 39) dX11_sheet_39 (by decide) ?_
              have h1 : ¬ (k.toInt < 0 ∨ 3 < k.toInt ∨ 12 < n.toInt) := by omega
              have h2 : ¬ (k.toInt < 3 ∧ n.toInt < 0) := by omega
              unfold shA
              rw [if_neg h1, if_neg h2]
              refine main _ (by omega) (by omega) (by omega) (fun m hm => ?_)
              first
                | (rw [nI_leI (by omega) (by omega)]; omega)
                | (rw [zi_leN (by omega)]; omega)
          · first | rw [zb_0d] at h23 | rw [zn_ge0 (by omega)] at h23 | rw [zi_ge0] at h23
            refine go_bipush (-2) (pc := 26) dX11_sheet_26 (by decide) ?_
            refine go_ireturn (pc := 28) dX11_sheet_28 rfl ?_
            unfold shA
            rw [if_neg (by omega), if_pos (by omega)]
            exact ⟨rfl, hC, Fr33.rf⟩
      · first | rw [nI_leI (by omega) (by omega)] at h12 | rw [zi_leN (by omega)] at h12 | rw [zi_Nle (by omega)] at h12 | rw [zi_le] at h12
        refine go_iconst (-1) (pc := 15) dX11_sheet_15 (by decide) ?_
        refine go_ireturn (pc := 16) dX11_sheet_16 rfl ?_
        unfold shA
        rw [if_pos (by omega)]
        exact ⟨rfl, hC, Fr33.rf⟩

def cntA (tx : Nat × (Nat → Nat)) (bd : Nat × (Nat → Nat) × (Nat → Nat)) (sk : Nat × (Nat → Nat)) (tw : Nat × (Nat → Nat) × (Nat → Nat)) (ld : Nat × (Nat → Nat)) (pa : Nat × (Nat → Nat → Nat)) (ru : Nat × (Nat → Nat) × (Nat → Nat)) (to : Nat × (Nat → Int64)) (w : Int32) : Int32 := if in0 w 14 then nI (([ld.1, bd.1, tw.1, ld.2 25, ld.2 26, ld.2 27, ld.2 28, menSum ld.1 ld.2, ld.2 24, hedSum ld.1 ld.2, sk.1, ru.1, pa.1, to.1, tx.1] : List Nat).getD w.toInt.toNat 0) else -100

theorem c_X11_count {E : zE} {σ : zT} {tx : Nat × (Nat → Nat)} {bd : Nat × (Nat → Nat) × (Nat → Nat)} {sk : Nat × (Nat → Nat)} {tw : Nat × (Nat → Nat) × (Nat → Nat)} {xs : List Nat} {ld : Nat × (Nat → Nat)} {pa sh : Nat × (Nat → Nat → Nat)} {ru : Nat × (Nat → Nat) × (Nat → Nat)} {to : Nat × (Nat → Int64)} {w : Int32} (hC : ClsIs σ tx bd sk tw xs ld pa sh ru to) : CalM E 3 yX11_count cX11_count 2 (some .int) [.ref (zA E 0 0), .int w] σ (fun r σ' => r = some (.int (cntA tx bd sk tw ld pa ru to w)) ∧ ClsIs σ' tx bd sk tw xs ld pa sh ru to ∧ Fr33 σ σ') := by
  refine cal_of_go (own := RX11) rfl (by decide +kernel) (Nat.le_of_ble_eq_true rfl) ?_
  have hL := hC.2.2.2.2.2.1
  have hn := hL.b
  have hok := hL.1
  have hB0 := hC.2.2.1
  have hnc := hB0.1
  obtain ⟨nx, hP⟩ := hC.2.2.2.2.2.2.1
  refine go_iload_n (i := 1) (pc := 0) dX11_count_0 rfl rfl ?_
  rcases (show w.toInt < 0 ∨ 14 < w.toInt ∨ w.toInt = 0 ∨ w.toInt = 1 ∨ w.toInt = 2 ∨ w.toInt = 3 ∨ w.toInt = 4 ∨ w.toInt = 5 ∨ w.toInt = 6 ∨ w.toInt = 7 ∨ w.toInt = 8 ∨ w.toInt = 9 ∨ w.toInt = 10 ∨ w.toInt = 11 ∨ w.toInt = 12 ∨ w.toInt = 13 ∨ w.toInt = 14 by omega) with h1 | h1 | h1 | h1 | h1 | h1 | h1 | h1 | h1 | h1 | h1 | h1 | h1 | h1 | h1 | h1 | h1
  · refine go_tableOut 196 (pc := 1) dX11_count_1 (by omega) (by decide) ?_
    refine go_bipush (-100) (pc := 196) dX11_count_196 (by decide) ?_
    refine go_ireturn (pc := 198) dX11_count_198 rfl ?_
    unfold cntA
    rw [if_neg (by omega)]
    exact ⟨rfl, hC, Fr33.rf⟩
  · refine go_tableOut 196 (pc := 1) dX11_count_1 (by omega) (by decide) ?_
    refine go_bipush (-100) (pc := 196) dX11_count_196 (by decide) ?_
    refine go_ireturn (pc := 198) dX11_count_198 rfl ?_
    unfold cntA
    rw [if_neg (by omega)]
    exact ⟨rfl, hC, Fr33.rf⟩
  · refine go_tableIn 76 (pc := 1) dX11_count_1 (by omega) (by omega) (by rw [h1]; rfl) (by decide) ?_
    refine go_aload_n (i := 0) (pc := 76) dX11_count_76 rfl rfl ?_
    refine go_getr2 fl_X11_49 (pc := 77) dX11_count_77 (by first | rfl | (apply zL_ci <;> assumption) | (apply zR_ci <;> assumption)) (by first | rfl | (apply zL_in <;> first | assumption | decide) | (apply zR_in <;> first | assumption | decide)) (by first | rfl | (apply zL_fr0 <;> assumption) | (apply zL_fr1 <;> assumption) | (apply zR_fr0 <;> assumption) | (apply zR_fr1 <;> assumption) | (apply zR_fr2 <;> assumption) | (apply zR_fr3 <;> assumption)) ?_
    refine go_callV ml_X11_127 mt_X2_miles (pc := 80) dX11_count_80 (c_X2_miles rfl hL) (by first | rfl | (apply zL_cq <;> assumption) | (apply zR_cq <;> assumption)) rfl (by first | rfl | (apply zL_in <;> first | assumption | decide) | (apply zR_in <;> first | assumption | decide)) (by decide) (by decide) rfl rfl (Nat.le_of_ble_eq_true rfl) (fun r σ' hp => ?_)
    obtain ⟨rfl, hσ⟩ := hp
    rw [hσ]
    clear hσ σ'
    dsimp only [zRet]
    refine go_ireturn (pc := 83) dX11_count_83 rfl ?_
    unfold cntA
    rw [if_pos (by omega), h1]
    exact ⟨rfl, hC, Fr33.rf⟩
  · refine go_tableIn 84 (pc := 1) dX11_count_1 (by omega) (by omega) (by rw [h1]; rfl) (by decide) ?_
    refine go_aload_n (i := 0) (pc := 84) dX11_count_84 rfl rfl ?_
    refine go_getr2 fl_X11_19 (pc := 85) dX11_count_85 (by first | rfl | (apply zL_ci <;> assumption) | (apply zR_ci <;> assumption)) (by first | rfl | (apply zL_in <;> first | assumption | decide) | (apply zR_in <;> first | assumption | decide)) (by first | rfl | (apply zL_fr0 <;> assumption) | (apply zL_fr1 <;> assumption) | (apply zR_fr0 <;> assumption) | (apply zR_fr1 <;> assumption) | (apply zR_fr2 <;> assumption) | (apply zR_fr3 <;> assumption)) ?_
    refine go_callV ml_X11_304 mt_X0_size (pc := 88) dX11_count_88 (c_X0_size hC.2.2.1) (by first | rfl | (apply zL_cq <;> assumption) | (apply zR_cq <;> assumption)) rfl (by first | rfl | (apply zL_in <;> first | assumption | decide) | (apply zR_in <;> first | assumption | decide)) (by decide) (by decide) rfl rfl (Nat.le_of_ble_eq_true rfl) (fun r σ' hp => ?_)
    obtain ⟨rfl, hσ⟩ := hp
    rw [hσ]
    clear hσ σ'
    dsimp only [zRet]
    refine go_ireturn (pc := 91) dX11_count_91 rfl ?_
    unfold cntA
    rw [if_pos (by omega), h1]
    exact ⟨rfl, hC, Fr33.rf⟩
  · refine go_tableIn 92 (pc := 1) dX11_count_1 (by omega) (by omega) (by rw [h1]; rfl) (by decide) ?_
    refine go_aload_n (i := 0) (pc := 92) dX11_count_92 rfl rfl ?_
    refine go_getr2 fl_X11_33 (pc := 93) dX11_count_93 (by first | rfl | (apply zL_ci <;> assumption) | (apply zR_ci <;> assumption)) (by first | rfl | (apply zL_in <;> first | assumption | decide) | (apply zR_in <;> first | assumption | decide)) (by first | rfl | (apply zL_fr0 <;> assumption) | (apply zL_fr1 <;> assumption) | (apply zR_fr0 <;> assumption) | (apply zR_fr1 <;> assumption) | (apply zR_fr2 <;> assumption) | (apply zR_fr3 <;> assumption)) ?_
    refine go_callV ml_X11_419 mt_X10_size (pc := 96) dX11_count_96 (c_X10_size hC.2.2.2.2.1) (by first | rfl | (apply zL_cq <;> assumption) | (apply zR_cq <;> assumption)) rfl (by first | rfl | (apply zL_in <;> first | assumption | decide) | (apply zR_in <;> first | assumption | decide)) (by decide) (by decide) rfl rfl (Nat.le_of_ble_eq_true rfl) (fun r σ' hp => ?_)
    obtain ⟨rfl, hσ⟩ := hp
    rw [hσ]
    clear hσ σ'
    dsimp only [zRet]
    refine go_ireturn (pc := 99) dX11_count_99 rfl ?_
    unfold cntA
    rw [if_pos (by omega), h1]
    exact ⟨rfl, hC, Fr33.rf⟩
  · refine go_tableIn 100 (pc := 1) dX11_count_1 (by omega) (by omega) (by rw [h1]; rfl) (by decide) ?_
    refine go_aload_n (i := 0) (pc := 100) dX11_count_100 rfl rfl ?_
    refine go_getr2 fl_X11_49 (pc := 101) dX11_count_101 (by first | rfl | (apply zL_ci <;> assumption) | (apply zR_ci <;> assumption)) (by first | rfl | (apply zL_in <;> first | assumption | decide) | (apply zR_in <;> first | assumption | decide)) (by first | rfl | (apply zL_fr0 <;> assumption) | (apply zL_fr1 <;> assumption) | (apply zR_fr0 <;> assumption) | (apply zR_fr1 <;> assumption) | (apply zR_fr2 <;> assumption) | (apply zR_fr3 <;> assumption)) ?_
    refine go_callV ml_X11_247 mt_X2_cheap (pc := 104) dX11_count_104 (c_X2_cheap rfl hL) (by first | rfl | (apply zL_cq <;> assumption) | (apply zR_cq <;> assumption)) rfl (by first | rfl | (apply zL_in <;> first | assumption | decide) | (apply zR_in <;> first | assumption | decide)) (by decide) (by decide) rfl rfl (Nat.le_of_ble_eq_true rfl) (fun r σ' hp => ?_)
    obtain ⟨rfl, hσ⟩ := hp
    rw [hσ]
    clear hσ σ'
    dsimp only [zRet]
    refine go_ireturn (pc := 107) dX11_count_107 rfl ?_
    unfold cntA
    rw [if_pos (by omega), h1]
    exact ⟨rfl, hC, Fr33.rf⟩
  · refine go_tableIn 108 (pc := 1) dX11_count_1 (by omega) (by omega) (by rw [h1]; rfl) (by decide) ?_
    refine go_aload_n (i := 0) (pc := 108) dX11_count_108 rfl rfl ?_
    refine go_getr2 fl_X11_49 (pc := 109) dX11_count_109 (by first | rfl | (apply zL_ci <;> assumption) | (apply zR_ci <;> assumption)) (by first | rfl | (apply zL_in <;> first | assumption | decide) | (apply zR_in <;> first | assumption | decide)) (by first | rfl | (apply zL_fr0 <;> assumption) | (apply zL_fr1 <;> assumption) | (apply zR_fr0 <;> assumption) | (apply zR_fr1 <;> assumption) | (apply zR_fr2 <;> assumption) | (apply zR_fr3 <;> assumption)) ?_
    refine go_callV ml_X11_250 mt_X2_dear (pc := 112) dX11_count_112 (c_X2_dear rfl hL) (by first | rfl | (apply zL_cq <;> assumption) | (apply zR_cq <;> assumption)) rfl (by first | rfl | (apply zL_in <;> first | assumption | decide) | (apply zR_in <;> first | assumption | decide)) (by decide) (by decide) rfl rfl (Nat.le_of_ble_eq_true rfl) (fun r σ' hp => ?_)
    obtain ⟨rfl, hσ⟩ := hp
    rw [hσ]
    clear hσ σ'
    dsimp only [zRet]
    refine go_ireturn (pc := 115) dX11_count_115 rfl ?_
    unfold cntA
    rw [if_pos (by omega), h1]
    exact ⟨rfl, hC, Fr33.rf⟩
  · refine go_tableIn 116 (pc := 1) dX11_count_1 (by omega) (by omega) (by rw [h1]; rfl) (by decide) ?_
    refine go_aload_n (i := 0) (pc := 116) dX11_count_116 rfl rfl ?_
    refine go_getr2 fl_X11_49 (pc := 117) dX11_count_117 (by first | rfl | (apply zL_ci <;> assumption) | (apply zR_ci <;> assumption)) (by first | rfl | (apply zL_in <;> first | assumption | decide) | (apply zR_in <;> first | assumption | decide)) (by first | rfl | (apply zL_fr0 <;> assumption) | (apply zL_fr1 <;> assumption) | (apply zR_fr0 <;> assumption) | (apply zR_fr1 <;> assumption) | (apply zR_fr2 <;> assumption) | (apply zR_fr3 <;> assumption)) ?_
    refine go_callV ml_X11_420 mt_X2_week (pc := 120) dX11_count_120 (c_X2_week rfl hL) (by first | rfl | (apply zL_cq <;> assumption) | (apply zR_cq <;> assumption)) rfl (by first | rfl | (apply zL_in <;> first | assumption | decide) | (apply zR_in <;> first | assumption | decide)) (by decide) (by decide) rfl rfl (Nat.le_of_ble_eq_true rfl) (fun r σ' hp => ?_)
    obtain ⟨rfl, hσ⟩ := hp
    rw [hσ]
    clear hσ σ'
    dsimp only [zRet]
    refine go_ireturn (pc := 123) dX11_count_123 rfl ?_
    unfold cntA
    rw [if_pos (by omega), h1]
    exact ⟨rfl, hC, Fr33.rf⟩
  · refine go_tableIn 124 (pc := 1) dX11_count_1 (by omega) (by omega) (by rw [h1]; rfl) (by decide) ?_
    refine go_aload_n (i := 0) (pc := 124) dX11_count_124 rfl rfl ?_
    refine go_getr2 fl_X11_49 (pc := 125) dX11_count_125 (by first | rfl | (apply zL_ci <;> assumption) | (apply zR_ci <;> assumption)) (by first | rfl | (apply zL_in <;> first | assumption | decide) | (apply zR_in <;> first | assumption | decide)) (by first | rfl | (apply zL_fr0 <;> assumption) | (apply zL_fr1 <;> assumption) | (apply zR_fr0 <;> assumption) | (apply zR_fr1 <;> assumption) | (apply zR_fr2 <;> assumption) | (apply zR_fr3 <;> assumption)) ?_
    refine go_callV ml_X11_239 mt_X2_over (pc := 128) dX11_count_128 (c_X2_over rfl hL) (by first | rfl | (apply zL_cq <;> assumption) | (apply zR_cq <;> assumption)) rfl (by first | rfl | (apply zL_in <;> first | assumption | decide) | (apply zR_in <;> first | assumption | decide)) (by decide) (by decide) rfl rfl (Nat.le_of_ble_eq_true rfl) (fun r σ' hp => ?_)
    obtain ⟨rfl, hσ⟩ := hp
    rw [hσ]
    clear hσ σ'
    dsimp only [zRet]
    refine go_ireturn (pc := 131) dX11_count_131 rfl ?_
    unfold cntA
    rw [if_pos (by omega), h1]
    exact ⟨rfl, hC, Fr33.rf⟩
  · refine go_tableIn 132 (pc := 1) dX11_count_1 (by omega) (by omega) (by rw [h1]; rfl) (by decide) ?_
    refine go_aload_n (i := 0) (pc := 132) dX11_count_132 rfl rfl ?_
    refine go_getr2 fl_X11_49 (pc := 133) dX11_count_133 (by first | rfl | (apply zL_ci <;> assumption) | (apply zR_ci <;> assumption)) (by first | rfl | (apply zL_in <;> first | assumption | decide) | (apply zR_in <;> first | assumption | decide)) (by first | rfl | (apply zL_fr0 <;> assumption) | (apply zL_fr1 <;> assumption) | (apply zR_fr0 <;> assumption) | (apply zR_fr1 <;> assumption) | (apply zR_fr2 <;> assumption) | (apply zR_fr3 <;> assumption)) ?_
    refine go_callV ml_X11_263 mt_X2_allMen (pc := 136) dX11_count_136 (c_X2_allMen rfl hL) (by first | rfl | (apply zL_cq <;> assumption) | (apply zR_cq <;> assumption)) rfl (by first | rfl | (apply zL_in <;> first | assumption | decide) | (apply zR_in <;> first | assumption | decide)) (by decide) (by decide) rfl rfl (Nat.le_of_ble_eq_true rfl) (fun r σ' hp => ?_)
    obtain ⟨rfl, hσ⟩ := hp
    rw [hσ]
    clear hσ σ'
    dsimp only [zRet]
    refine go_ireturn (pc := 139) dX11_count_139 rfl ?_
    unfold cntA
    rw [if_pos (by omega), h1]
    exact ⟨rfl, hC, Fr33.rf⟩
  · refine go_tableIn 140 (pc := 1) dX11_count_1 (by omega) (by omega) (by rw [h1]; rfl) (by decide) ?_
    refine go_aload_n (i := 0) (pc := 140) dX11_count_140 rfl rfl ?_
    refine go_getr2 fl_X11_49 (pc := 141) dX11_count_141 (by first | rfl | (apply zL_ci <;> assumption) | (apply zR_ci <;> assumption)) (by first | rfl | (apply zL_in <;> first | assumption | decide) | (apply zR_in <;> first | assumption | decide)) (by first | rfl | (apply zL_fr0 <;> assumption) | (apply zL_fr1 <;> assumption) | (apply zR_fr0 <;> assumption) | (apply zR_fr1 <;> assumption) | (apply zR_fr2 <;> assumption) | (apply zR_fr3 <;> assumption)) ?_
    refine go_callV ml_X11_268 mt_X2_gates (pc := 144) dX11_count_144 (c_X2_gates rfl hL) (by first | rfl | (apply zL_cq <;> assumption) | (apply zR_cq <;> assumption)) rfl (by first | rfl | (apply zL_in <;> first | assumption | decide) | (apply zR_in <;> first | assumption | decide)) (by decide) (by decide) rfl rfl (Nat.le_of_ble_eq_true rfl) (fun r σ' hp => ?_)
    obtain ⟨rfl, hσ⟩ := hp
    rw [hσ]
    clear hσ σ'
    dsimp only [zRet]
    refine go_ireturn (pc := 147) dX11_count_147 rfl ?_
    unfold cntA
    rw [if_pos (by omega), h1]
    exact ⟨rfl, hC, Fr33.rf⟩
  · refine go_tableIn 148 (pc := 1) dX11_count_1 (by omega) (by omega) (by rw [h1]; rfl) (by decide) ?_
    refine go_aload_n (i := 0) (pc := 148) dX11_count_148 rfl rfl ?_
    refine go_getr2 fl_X11_49 (pc := 149) dX11_count_149 (by first | rfl | (apply zL_ci <;> assumption) | (apply zR_ci <;> assumption)) (by first | rfl | (apply zL_in <;> first | assumption | decide) | (apply zR_in <;> first | assumption | decide)) (by first | rfl | (apply zL_fr0 <;> assumption) | (apply zL_fr1 <;> assumption) | (apply zR_fr0 <;> assumption) | (apply zR_fr1 <;> assumption) | (apply zR_fr2 <;> assumption) | (apply zR_fr3 <;> assumption)) ?_
    refine go_callV ml_X11_195 mt_X2_allHedges (pc := 152) dX11_count_152 (c_X2_allHedges rfl hL) (by first | rfl | (apply zL_cq <;> assumption) | (apply zR_cq <;> assumption)) rfl (by first | rfl | (apply zL_in <;> first | assumption | decide) | (apply zR_in <;> first | assumption | decide)) (by decide) (by decide) rfl rfl (Nat.le_of_ble_eq_true rfl) (fun r σ' hp => ?_)
    obtain ⟨rfl, hσ⟩ := hp
    rw [hσ]
    clear hσ σ'
    dsimp only [zRet]
    refine go_ireturn (pc := 155) dX11_count_155 rfl ?_
    unfold cntA
    rw [if_pos (by omega), h1]
    exact ⟨rfl, hC, Fr33.rf⟩
  · refine go_tableIn 156 (pc := 1) dX11_count_1 (by omega) (by omega) (by rw [h1]; rfl) (by decide) ?_
    refine go_aload_n (i := 0) (pc := 156) dX11_count_156 rfl rfl ?_
    refine go_getr2 fl_X11_26 (pc := 157) dX11_count_157 (by first | rfl | (apply zL_ci <;> assumption) | (apply zR_ci <;> assumption)) (by first | rfl | (apply zL_in <;> first | assumption | decide) | (apply zR_in <;> first | assumption | decide)) (by first | rfl | (apply zL_fr0 <;> assumption) | (apply zL_fr1 <;> assumption) | (apply zR_fr0 <;> assumption) | (apply zR_fr1 <;> assumption) | (apply zR_fr2 <;> assumption) | (apply zR_fr3 <;> assumption)) ?_
    refine go_callV ml_X11_423 mt_X7_size (pc := 160) dX11_count_160 (c_X7_size hC.2.2.2.1) (by first | rfl | (apply zL_cq <;> assumption) | (apply zR_cq <;> assumption)) rfl (by first | rfl | (apply zL_in <;> first | assumption | decide) | (apply zR_in <;> first | assumption | decide)) (by decide) (by decide) rfl rfl (Nat.le_of_ble_eq_true rfl) (fun r σ' hp => ?_)
    obtain ⟨rfl, hσ⟩ := hp
    rw [hσ]
    clear hσ σ'
    dsimp only [zRet]
    refine go_ireturn (pc := 163) dX11_count_163 rfl ?_
    unfold cntA
    rw [if_pos (by omega), h1]
    exact ⟨rfl, hC, Fr33.rf⟩
  · refine go_tableIn 164 (pc := 1) dX11_count_1 (by omega) (by omega) (by rw [h1]; rfl) (by decide) ?_
    refine go_aload_n (i := 0) (pc := 164) dX11_count_164 rfl rfl ?_
    refine go_getr2 fl_X11_76 (pc := 165) dX11_count_165 (by first | rfl | (apply zL_ci <;> assumption) | (apply zR_ci <;> assumption)) (by first | rfl | (apply zL_in <;> first | assumption | decide) | (apply zR_in <;> first | assumption | decide)) (by first | rfl | (apply zL_fr0 <;> assumption) | (apply zL_fr1 <;> assumption) | (apply zR_fr0 <;> assumption) | (apply zR_fr1 <;> assumption) | (apply zR_fr2 <;> assumption) | (apply zR_fr3 <;> assumption)) ?_
    refine go_callV ml_X11_374 mt_X5_size (pc := 168) dX11_count_168 (c_X5_size hC.2.2.2.2.2.2.2.2.1) (by first | rfl | (apply zL_cq <;> assumption) | (apply zR_cq <;> assumption)) rfl (by first | rfl | (apply zL_in <;> first | assumption | decide) | (apply zR_in <;> first | assumption | decide)) (by decide) (by decide) rfl rfl (Nat.le_of_ble_eq_true rfl) (fun r σ' hp => ?_)
    obtain ⟨rfl, hσ⟩ := hp
    rw [hσ]
    clear hσ σ'
    dsimp only [zRet]
    refine go_ireturn (pc := 171) dX11_count_171 rfl ?_
    unfold cntA
    rw [if_pos (by omega), h1]
    exact ⟨rfl, hC, Fr33.rf⟩
  · refine go_tableIn 172 (pc := 1) dX11_count_1 (by omega) (by omega) (by rw [h1]; rfl) (by decide) ?_
    refine go_aload_n (i := 0) (pc := 172) dX11_count_172 rfl rfl ?_
    refine go_getr2 fl_X11_62 (pc := 173) dX11_count_173 (by first | rfl | (apply zL_ci <;> assumption) | (apply zR_ci <;> assumption)) (by first | rfl | (apply zL_in <;> first | assumption | decide) | (apply zR_in <;> first | assumption | decide)) (by first | rfl | (apply zL_fr0 <;> assumption) | (apply zL_fr1 <;> assumption) | (apply zR_fr0 <;> assumption) | (apply zR_fr1 <;> assumption) | (apply zR_fr2 <;> assumption) | (apply zR_fr3 <;> assumption)) ?_
    refine go_callV ml_X11_246 mt_X3_size (pc := 176) dX11_count_176 (c_X3_size hP) (by first | rfl | (apply zL_cq <;> assumption) | (apply zR_cq <;> assumption)) rfl (by first | rfl | (apply zL_in <;> first | assumption | decide) | (apply zR_in <;> first | assumption | decide)) (by decide) (by decide) rfl rfl (Nat.le_of_ble_eq_true rfl) (fun r σ' hp => ?_)
    obtain ⟨rfl, hσ⟩ := hp
    rw [hσ]
    clear hσ σ'
    dsimp only [zRet]
    refine go_ireturn (pc := 179) dX11_count_179 rfl ?_
    unfold cntA
    rw [if_pos (by omega), h1]
    exact ⟨rfl, hC, Fr33.rf⟩
  · refine go_tableIn 180 (pc := 1) dX11_count_1 (by omega) (by omega) (by rw [h1]; rfl) (by decide) ?_
    refine go_aload_n (i := 0) (pc := 180) dX11_count_180 rfl rfl ?_
    refine go_getr2 fl_X11_83 (pc := 181) dX11_count_181 (by first | rfl | (apply zL_ci <;> assumption) | (apply zR_ci <;> assumption)) (by first | rfl | (apply zL_in <;> first | assumption | decide) | (apply zR_in <;> first | assumption | decide)) (by first | rfl | (apply zL_fr0 <;> assumption) | (apply zL_fr1 <;> assumption) | (apply zR_fr0 <;> assumption) | (apply zR_fr1 <;> assumption) | (apply zR_fr2 <;> assumption) | (apply zR_fr3 <;> assumption)) ?_
    refine go_callV ml_X11_424 mt_X9_size (pc := 184) dX11_count_184 (c_X9_size hC.2.2.2.2.2.2.2.2.2) (by first | rfl | (apply zL_cq <;> assumption) | (apply zR_cq <;> assumption)) rfl (by first | rfl | (apply zL_in <;> first | assumption | decide) | (apply zR_in <;> first | assumption | decide)) (by decide) (by decide) rfl rfl (Nat.le_of_ble_eq_true rfl) (fun r σ' hp => ?_)
    obtain ⟨rfl, hσ⟩ := hp
    rw [hσ]
    clear hσ σ'
    dsimp only [zRet]
    refine go_ireturn (pc := 187) dX11_count_187 rfl ?_
    unfold cntA
    rw [if_pos (by omega), h1]
    exact ⟨rfl, hC, Fr33.rf⟩
  · refine go_tableIn 188 (pc := 1) dX11_count_1 (by omega) (by omega) (by rw [h1]; rfl) (by decide) ?_
    refine go_aload_n (i := 0) (pc := 188) dX11_count_188 rfl rfl ?_
    refine go_getr2 fl_X11_10 (pc := 189) dX11_count_189 (by first | rfl | (apply zL_ci <;> assumption) | (apply zR_ci <;> assumption)) (by first | rfl | (apply zL_in <;> first | assumption | decide) | (apply zR_in <;> first | assumption | decide)) (by first | rfl | (apply zL_fr0 <;> assumption) | (apply zL_fr1 <;> assumption) | (apply zR_fr0 <;> assumption) | (apply zR_fr1 <;> assumption) | (apply zR_fr2 <;> assumption) | (apply zR_fr3 <;> assumption)) ?_
    refine go_callV ml_X11_108 mt_X8_size (pc := 192) dX11_count_192 (c_X8_size hC.2.1) (by first | rfl | (apply zL_cq <;> assumption) | (apply zR_cq <;> assumption)) rfl (by first | rfl | (apply zL_in <;> first | assumption | decide) | (apply zR_in <;> first | assumption | decide)) (by decide) (by decide) rfl rfl (Nat.le_of_ble_eq_true rfl) (fun r σ' hp => ?_)
    obtain ⟨rfl, hσ⟩ := hp
    rw [hσ]
    clear hσ σ'
    dsimp only [zRet]
    refine go_ireturn (pc := 195) dX11_count_195 rfl ?_
    unfold cntA
    rw [if_pos (by omega), h1]
    exact ⟨rfl, hC, Fr33.rf⟩

def ner (s : Nat) : Nat → Nat
  | 0 => s
  | r + 1 => ner s r ||| (ner s r * 2 ^ 1 ||| ner s r / 2 ^ 1)
theorem ner_lt {s : Nat} (h : s < 2 ^ 12) (r : Nat) : ner s r < 2 ^ (12 + r) := by
  induction r with
  | zero => exact h
  | succ r ih =>
    have e : 2 ^ (12 + (r + 1)) = 2 ^ (12 + r) * 2 := Nat.pow_succ ..
    refine Nat.or_lt_two_pow ?_ (Nat.or_lt_two_pow ?_ ?_)
    · omega
    · rw [e]; omega
    · have : ner s r / 2 ^ 1 ≤ ner s r := Nat.div_le_self _ _
      omega
theorem zshlP : ∀ m : Nat, m ≤ 12 → nI 1 <<< (nI m &&& 31) = nI (2 ^ m) := by decide
def pst (r n : Nat) : Nat → Nat
  | 0 => 2 ^ n - 1
  | i + 1 => if bcn (i + 1) < bcn (pst r n i) ∧ ner (i + 1) r &&& (2 ^ n - 1) = 2 ^ n - 1 then i + 1 else pst r n i
theorem pst_le {r n i : Nat} (h : i ≤ 2 ^ n - 1) : pst r n i ≤ 2 ^ n - 1 := by
  induction i with
  | zero => exact Nat.le_refl _
  | succ i ih => unfold pst; split; exact h; exact ih (by omega)

theorem c_X11_near {E : zE} {σ : zT} {s r : Nat} (hs : s < 2 ^ 12) (hr : r ≤ 11) : CalM E 0 yX11_near cX11_near 4 (some .int) [.int (nI s), .int (nI r)] σ (fun r2 σ' => r2 = some (.int (nI (ner s r))) ∧ σ' = σ) := by
  refine cal_of_go (own := RX11) rfl (by decide +kernel) (Nat.le_of_ble_eq_true rfl) ?_
  have loop : ∀ i : Nat, i ≤ r → GoM E 0 RX11 cX11_near 4 (some .int) (fun r2 σ' => r2 = some (.int (nI (ner s r))) ∧ σ' = σ) σ 4 [(0, .int (nI s)), (1, .int (nI r)), (2, .int (nI (ner s i))), (3, .int (nI i))] [] := by
    intro i
    induction hj : r - i using Nat.strongRecOn generalizing i with
    | ind z ih =>
      intro hi
      have hb := ner_lt hs i
      have hb2 : 2 ^ (12 + i) ≤ 2 ^ 23 := Nat.pow_le_pow_right (by decide) (by omega)
      refine go_iload_n (i := 3) (pc := 4) dX11_near_4 rfl rfl ?_
      refine go_iload_n (i := 1) (pc := 5) dX11_near_5 rfl rfl ?_
      refine go_icmp_ge 25 (pc := 6) dX11_near_6 (by decide) (fun h6 => ?_) (fun h6 => ?_)
      · first | rw [nI_leI (by omega) (by omega)] at h6 | rw [zi_leN (by omega)] at h6 | rw [zi_Nle (by omega)] at h6 | rw [zi_le] at h6
        have ei : i = r := by omega
        subst ei
        refine go_iload_n (i := 2) (pc := 25) dX11_near_25 rfl rfl ?_
        refine go_ireturn (pc := 26) dX11_near_26 rfl ?_
        exact ⟨rfl, rfl⟩
      · first | rw [nI_leI (by omega) (by omega)] at h6 | rw [zi_leN (by omega)] at h6 | rw [zi_Nle (by omega)] at h6 | rw [zi_le] at h6
        refine go_iload_n (i := 2) (pc := 9) dX11_near_9 rfl rfl ?_
        refine go_iload_n (i := 2) (pc := 10) dX11_near_10 rfl rfl ?_
        refine go_iconst (nI 1) (pc := 11) dX11_near_11 (by decide) ?_
        refine go_ishl (pc := 12) dX11_near_12 ?_
        rw [pk_shlN (nI 1 &&& 31) 1 (by decide) (by omega)]
        refine go_iload_n (i := 2) (pc := 13) dX11_near_13 rfl rfl ?_
        refine go_iconst (nI 1) (pc := 14) dX11_near_14 (by decide) ?_
        refine go_ishr (pc := 15) dX11_near_15 ?_
        rw [pk_shrN (by omega) (nI 1 &&& 31) 1 (by decide)]
        refine go_ior (pc := 16) dX11_near_16 ?_
        rw [zorN]
        refine go_ior (pc := 17) dX11_near_17 ?_
        rw [zorN]
        refine go_istore_n (i := 2) (pc := 18) dX11_near_18 rfl (by decide) ?_
        refine go_iincN (pc := 19) dX11_near_19 rfl (by decide) ?_
        refine go_goto 4 (pc := 22) dX11_near_22 (by decide) ?_
        exact ih (r - (i + 1)) (by omega) (i + 1) rfl (by omega)
  refine go_iload_n (i := 0) (pc := 0) dX11_near_0 rfl rfl ?_
  refine go_istore_n (i := 2) (pc := 1) dX11_near_1 rfl (by decide) ?_
  refine go_iconst (nI 0) (pc := 2) dX11_near_2 (by decide) ?_
  refine go_istore_n (i := 3) (pc := 3) dX11_near_3 rfl (by decide) ?_
  exact loop 0 (by omega)

theorem c_X11_posts {E : zE} {σ : zT} {tx : Nat × (Nat → Nat)} {bd : Nat × (Nat → Nat) × (Nat → Nat)} {sk : Nat × (Nat → Nat)} {tw : Nat × (Nat → Nat) × (Nat → Nat)} {xs : List Nat} {ld : Nat × (Nat → Nat)} {pa sh : Nat × (Nat → Nat → Nat)} {ru : Nat × (Nat → Nat) × (Nat → Nat)} {to : Nat × (Nat → Int64)} {r0 : Int32} (hC : ClsIs σ tx bd sk tw xs ld pa sh ru to) : CalM E 2 yX11_posts cX11_posts 5 (some .int) [.ref (zA E 0 0), .int r0] σ (fun r σ' => r = some (.int (if in0 r0 11 then nI (bcn (pst r0.toInt.toNat ld.1 (2 ^ ld.1 - 1))) else -1)) ∧ ClsIs σ' tx bd sk tw xs ld pa sh ru (if in0 r0 11 then (1, ln1 (lN (pst r0.toInt.toNat ld.1 (2 ^ ld.1 - 1)))) else to) ∧ Fr33 σ σ') := by
  refine cal_of_go (own := RX11) rfl (by decide +kernel) (Nat.le_of_ble_eq_true rfl) ?_
  have hL := hC.2.2.2.2.2.1
  have hn := hL.b
  have hok := hL.1
  have hB0 := hC.2.2.1
  have hnc := hB0.1
  have hpw : 2 ^ ld.1 ≤ 2 ^ 12 := Nat.pow_le_pow_right (by decide) hn.2
  have hpp : 0 < 2 ^ ld.1 := Nat.two_pow_pos _
  have main : ∀ r1 : Nat, r1 ≤ 11 → GoM E 2 RX11 cX11_posts 5 (some .int) (fun r σ' => r = some (.int (nI (bcn (pst r1 ld.1 (2 ^ ld.1 - 1))))) ∧ ClsIs σ' tx bd sk tw xs ld pa sh ru (1, ln1 (lN (pst r1 ld.1 (2 ^ ld.1 - 1)))) ∧ Fr33 σ σ') σ 12 [(0, .ref (zA E 0 0)), (1, .int (nI r1))] [] := by
    intro r1 hr1
    have loop : ∀ (i : Nat) (τ : zT), i ≤ (2 ^ ld.1 - 1) → (ClsIs τ tx bd sk tw xs ld pa sh ru to) → (Fr33 σ τ) → GoM E 2 RX11 cX11_posts 5 (some .int) (fun r σ' => r = some (.int (nI (bcn (pst r1 ld.1 (2 ^ ld.1 - 1))))) ∧ ClsIs σ' tx bd sk tw xs ld pa sh ru (1, ln1 (lN (pst r1 ld.1 (2 ^ ld.1 - 1)))) ∧ Fr33 σ σ') τ 29 [(0, .ref (zA E 0 0)), (1, .int (nI r1)), (2, .int (nI (2 ^ ld.1 - 1))), (3, .int (nI (pst r1 ld.1 i))), (4, .int (nI (i + 1)))] [] := by
      intro i
      induction hj : (2 ^ ld.1 - 1) - i using Nat.strongRecOn generalizing i with
      | ind z ih =>
        intro τ hi hCt hF
        have hpl := pst_le (r := r1) hi
        have hbc := bcn_le (i + 1)
        have hbc2 := bcn_le (pst r1 ld.1 i)
        refine go_iload (pc := 29) dX11_posts_29 rfl ?_
        refine go_iload_n (i := 2) (pc := 31) dX11_posts_31 rfl rfl ?_
        refine go_icmp_gt 68 (pc := 32) dX11_posts_32 (by decide) (fun h32 => ?_) (fun h32 => ?_)
        · first | rw [nI_ltI (by omega) (by omega)] at h32 | rw [zi_ltN (by omega)] at h32 | rw [zi_Nlt (by omega)] at h32 | rw [zi_lt] at h32
          have ei : i = 2 ^ ld.1 - 1 := by omega
          subst ei
          refine go_aload_n (i := 0) (pc := 68) dX11_posts_68 rfl rfl ?_
          refine go_getr2 fl_X11_83 (pc := 69) dX11_posts_69 (by first | rfl | (apply zL_ci <;> assumption) | (apply zR_ci <;> assumption)) (by first | rfl | (apply zL_in <;> first | assumption | decide) | (apply zR_in <;> first | assumption | decide)) (by first | rfl | (apply zL_fr0 <;> assumption) | (apply zL_fr1 <;> assumption) | (apply zR_fr0 <;> assumption) | (apply zR_fr1 <;> assumption) | (apply zR_fr2 <;> assumption) | (apply zR_fr3 <;> assumption)) ?_
          refine go_iload_n (i := 3) (pc := 72) dX11_posts_72 rfl rfl ?_
          refine go_i2l (pc := 73) dX11_posts_73 ?_
          rw [nI_l (by omega)]
          refine go_callV ml_X11_300 mt_X9_one (pc := 74) dX11_posts_74 (c_X9_one) (by first | rfl | (apply zL_cq <;> assumption) | (apply zR_cq <;> assumption)) rfl (by first | rfl | (apply zL_in <;> first | assumption | decide) | (apply zR_in <;> first | assumption | decide)) (by decide) (by decide) rfl rfl (Nat.le_of_ble_eq_true rfl) (fun r σ' hp => ?_)
          obtain ⟨rfl, hT4, hf4⟩ := hp
          dsimp only [zRet]
          refine go_iload_n (i := 3) (pc := 77) dX11_posts_77 rfl rfl ?_
          refine go_callS ml_X11_271 mt_J6_bitCount_0f7a4 (pc := 78) dX11_posts_78 (c_bc (by omega)) (by decide) (by decide) rfl rfl (Nat.le_of_ble_eq_true rfl) (fun r σ' hp => ?_)
          obtain ⟨rfl, hσ⟩ := hp
          rw [hσ]
          clear hσ σ'
          dsimp only [zRet]
          refine go_ireturn (pc := 81) dX11_posts_81 rfl ?_
          exact ⟨rfl, hCt.setTo (to' := (1, _)) hf4 hT4, hF.tr (Fr33.of hf4 (by simp))⟩
        · first | rw [nI_ltI (by omega) (by omega)] at h32 | rw [zi_ltN (by omega)] at h32 | rw [zi_Nlt (by omega)] at h32 | rw [zi_lt] at h32
          refine go_iload (pc := 35) dX11_posts_35 rfl ?_
          refine go_callS ml_X11_271 mt_J6_bitCount_0f7a4 (pc := 37) dX11_posts_37 (c_bc (by omega)) (by decide) (by decide) rfl rfl (Nat.le_of_ble_eq_true rfl) (fun r σ' hp => ?_)
          obtain ⟨rfl, hσ⟩ := hp
          rw [hσ]
          clear hσ σ'
          dsimp only [zRet]
          refine go_iload_n (i := 3) (pc := 40) dX11_posts_40 rfl rfl ?_
          refine go_callS ml_X11_271 mt_J6_bitCount_0f7a4 (pc := 41) dX11_posts_41 (c_bc (by omega)) (by decide) (by decide) rfl rfl (Nat.le_of_ble_eq_true rfl) (fun r σ' hp => ?_)
          obtain ⟨rfl, hσ⟩ := hp
          rw [hσ]
          clear hσ σ'
          dsimp only [zRet]
          refine go_icmp_ge 62 (pc := 44) dX11_posts_44 (by decide) (fun h44 => ?_) (fun h44 => ?_)
          · first | rw [nI_leI (by omega) (by omega)] at h44 | rw [zi_leN (by omega)] at h44 | rw [zi_Nle (by omega)] at h44 | rw [zi_le] at h44
            have es : pst r1 ld.1 (i + 1) = pst r1 ld.1 i := by rw [pst, if_neg (fun q => by omega)]
            refine go_iincN (pc := 62) dX11_posts_62 rfl (by decide) ?_
            refine go_goto 29 (pc := 65) dX11_posts_65 (by decide) ?_
            have ih2 := ih ((2 ^ ld.1 - 1) - (i + 1)) (by omega) (i + 1) rfl _ (by omega) hCt hF
            rw [es] at ih2
            exact ih2
          · first | rw [nI_leI (by omega) (by omega)] at h44 | rw [zi_leN (by omega)] at h44 | rw [zi_Nle (by omega)] at h44 | rw [zi_le] at h44
            refine go_iload (pc := 47) dX11_posts_47 rfl ?_
            refine go_iload_n (i := 1) (pc := 49) dX11_posts_49 rfl rfl ?_
            refine go_callS ml_X11_344 mt_X11_near (pc := 50) dX11_posts_50 (c_X11_near (by omega) hr1) (by decide) (by decide) rfl rfl (Nat.le_of_ble_eq_true rfl) (fun r σ' hp => ?_)
            obtain ⟨rfl, hσ⟩ := hp
            rw [hσ]
            clear hσ σ'
            dsimp only [zRet]
            have hnl := ner_lt (s := i + 1) (by omega) r1
            have hnl2 : 2 ^ (12 + r1) ≤ 2 ^ 23 := Nat.pow_le_pow_right (by decide) (by omega)
            have hnl3 : ner (i + 1) r1 &&& (2 ^ ld.1 - 1) ≤ 2 ^ ld.1 - 1 := Nat.and_le_right
            refine go_iload_n (i := 2) (pc := 53) dX11_posts_53 rfl rfl ?_
            refine go_iand (pc := 54) dX11_posts_54 ?_
            rw [zandN]
            refine go_iload_n (i := 2) (pc := 55) dX11_posts_55 rfl rfl ?_
            refine go_icmp_ne 62 (pc := 56) dX11_posts_56 (by decide) (fun h56 => ?_) (fun h56 => ?_)
            · rw [nI_eq (by omega) (by omega)] at h56
              have es : pst r1 ld.1 (i + 1) = pst r1 ld.1 i := by rw [pst, if_neg (fun q => h56 q.2)]
              refine go_iincN (pc := 62) dX11_posts_62 rfl (by decide) ?_
              refine go_goto 29 (pc := 65) dX11_posts_65 (by decide) ?_
              have ih2 := ih ((2 ^ ld.1 - 1) - (i + 1)) (by omega) (i + 1) rfl _ (by omega) hCt hF
              rw [es] at ih2
              exact ih2
            · rw [nI_eq (by omega) (by omega)] at h56
              have es : pst r1 ld.1 (i + 1) = i + 1 := by rw [pst, if_pos ⟨by omega, by omega⟩]
              refine go_iload (pc := 59) dX11_posts_59 rfl ?_
              refine go_istore_n (i := 3) (pc := 61) dX11_posts_61 rfl (by decide) ?_
              refine go_iincN (pc := 62) dX11_posts_62 rfl (by decide) ?_
              refine go_goto 29 (pc := 65) dX11_posts_65 (by decide) ?_
              have ih2 := ih ((2 ^ ld.1 - 1) - (i + 1)) (by omega) (i + 1) rfl _ (by omega) hCt hF
              rw [es] at ih2
              exact ih2
    refine go_iconst (nI 1) (pc := 12) dX11_posts_12 (by decide) ?_
    refine go_aload_n (i := 0) (pc := 13) dX11_posts_13 rfl rfl ?_
    refine go_getr2 fl_X11_49 (pc := 14) dX11_posts_14 (by first | rfl | (apply zL_ci <;> assumption) | (apply zR_ci <;> assumption)) (by first | rfl | (apply zL_in <;> first | assumption | decide) | (apply zR_in <;> first | assumption | decide)) (by first | rfl | (apply zL_fr0 <;> assumption) | (apply zL_fr1 <;> assumption) | (apply zR_fr0 <;> assumption) | (apply zR_fr1 <;> assumption) | (apply zR_fr2 <;> assumption) | (apply zR_fr3 <;> assumption)) ?_
    refine go_callV ml_X11_127 mt_X2_miles (pc := 17) dX11_posts_17 (c_X2_miles rfl hL) (by first | rfl | (apply zL_cq <;> assumption) | (apply zR_cq <;> assumption)) rfl (by first | rfl | (apply zL_in <;> first | assumption | decide) | (apply zR_in <;> first | assumption | decide)) (by decide) (by decide) rfl rfl (Nat.le_of_ble_eq_true rfl) (fun r σ' hp => ?_)
    obtain ⟨rfl, hσ⟩ := hp
    rw [hσ]
    clear hσ σ'
    dsimp only [zRet]
    refine go_ishl (pc := 20) dX11_posts_20 ?_
    rw [zshlP _ hn.2]
    refine go_iconst (nI 1) (pc := 21) dX11_posts_21 (by decide) ?_
    first | with_reducible refine go_isubN (pc := 22) dX11_posts_22 (by omega) ?_ | refine go_isub (pc := 22) dX11_posts_22 ?_
    refine go_istore_n (i := 2) (pc := 23) dX11_posts_23 rfl (by decide) ?_
    refine go_iload_n (i := 2) (pc := 24) dX11_posts_24 rfl rfl ?_
    refine go_istore_n (i := 3) (pc := 25) dX11_posts_25 rfl (by decide) ?_
    refine go_iconst (nI 1) (pc := 26) dX11_posts_26 (by decide) ?_
    refine go_istore (pc := 27) dX11_posts_27 (by decide) ?_
    exact loop 0 _ (by omega) hC Fr33.rf
  refine go_iload_n (i := 1) (pc := 0) dX11_posts_0 rfl rfl ?_
  refine go_if_lt 10 (pc := 1) dX11_posts_1 (by decide) (fun h1 => ?_) (fun h1 => ?_)
  · first | rw [zb_0d] at h1 | rw [zn_lt0 (by omega)] at h1 | rw [zi_lt0] at h1
    refine go_iconst (-1) (pc := 10) dX11_posts_10 (by decide) ?_
    refine go_ireturn (pc := 11) dX11_posts_11 rfl ?_
    rw [if_neg (by omega), if_neg (by omega)]
    exact ⟨rfl, hC, Fr33.rf⟩
  · first | rw [zb_0d] at h1 | rw [zn_lt0 (by omega)] at h1 | rw [zi_lt0] at h1
    refine go_iload_n (i := 1) (pc := 4) dX11_posts_4 rfl rfl ?_
    refine go_bipush (nI 11) (pc := 5) dX11_posts_5 (by decide) ?_
    refine go_icmp_le 12 (pc := 7) dX11_posts_7 (by decide) (fun h7 => ?_) (fun h7 => ?_)
    · first | rw [nI_leI (by omega) (by omega)] at h7 | rw [zi_leN (by omega)] at h7 | rw [zi_Nle (by omega)] at h7 | rw [zi_le] at h7
      rw [if_pos (by omega : in0 r0 11), if_pos (by omega : in0 r0 11)]
      have er1 := nI_of' (x := r0) (by omega)
      generalize hqr1 : r0.toInt.toNat = r1 at er1 ⊢
      have hr1 : r1 ≤ 11 := by omega
      subst er1
      exact main r1 hr1
    · first | rw [nI_leI (by omega) (by omega)] at h7 | rw [zi_leN (by omega)] at h7 | rw [zi_Nle (by omega)] at h7 | rw [zi_le] at h7
      refine go_iconst (-1) (pc := 10) dX11_posts_10 (by decide) ?_
      refine go_ireturn (pc := 11) dX11_posts_11 rfl ?_
      rw [if_neg (by omega), if_neg (by omega)]
      exact ⟨rfl, hC, Fr33.rf⟩

def wlk (s k n : Nat) : Nat := if n < 2 then 0 else if (s % n + k) % (2 * (n - 1)) < n then (s % n + k) % (2 * (n - 1)) else 2 * (n - 1) - (s % n + k) % (2 * (n - 1))
theorem wlk_lt {s k n : Nat} (h : 1 ≤ n) : wlk s k n < n := by
  unfold wlk
  split
  · omega
  · have : (s % n + k) % (2 * (n - 1)) < 2 * (n - 1) := Nat.mod_lt _ (by omega)
    split <;> omega
def rnd (k n : Nat) : Nat → Int32
  | 0 => nI (2 ^ n - 1)
  | i + 1 => rnd k n i &&& (nI (2 ^ wlk (2 * i) k n) ^^^ (-1))

theorem c_X11_walked {E : zE} {σ : zT} {s k n : Nat} (hs : s < 1000) (hk : k < 1000) (h1 : 1 ≤ n) (hn : n ≤ 12) : CalM E 0 yX11_walked cX11_walked 5 (some .int) [.int (nI s), .int (nI k), .int (nI n)] σ (fun r σ' => r = some (.int (nI (wlk s k n))) ∧ σ' = σ) := by
  refine cal_of_go (own := RX11) rfl (by decide +kernel) (Nat.le_of_ble_eq_true rfl) ?_
  refine go_iload_n (i := 2) (pc := 0) dX11_walked_0 rfl rfl ?_
  refine go_iconst (nI 2) (pc := 1) dX11_walked_1 (by decide) ?_
  refine go_icmp_ge 7 (pc := 2) dX11_walked_2 (by decide) (fun h2 => ?_) (fun h2 => ?_)
  · first | rw [nI_leI (by omega) (by omega)] at h2 | rw [zi_leN (by omega)] at h2 | rw [zi_Nle (by omega)] at h2 | rw [zi_le] at h2
    have hm : s % n < n := Nat.mod_lt _ (by omega)
    have hm2 : (s % n + k) % (2 * (n - 1)) < 2 * (n - 1) := Nat.mod_lt _ (by omega)
    refine go_iconst (nI 2) (pc := 7) dX11_walked_7 (by decide) ?_
    refine go_iload_n (i := 2) (pc := 8) dX11_walked_8 rfl rfl ?_
    refine go_iconst (nI 1) (pc := 9) dX11_walked_9 (by decide) ?_
    first | with_reducible refine go_isubN (pc := 10) dX11_walked_10 (by omega) ?_ | refine go_isub (pc := 10) dX11_walked_10 ?_
    first | with_reducible refine go_imulN (pc := 11) dX11_walked_11 ?_ | refine go_imul (pc := 11) dX11_walked_11 ?_
    refine go_istore_n (i := 3) (pc := 12) dX11_walked_12 rfl (by decide) ?_
    refine go_iload_n (i := 0) (pc := 13) dX11_walked_13 rfl rfl ?_
    refine go_iload_n (i := 2) (pc := 14) dX11_walked_14 rfl rfl ?_
    refine go_irem (pc := 15) dX11_walked_15 (by rw [zn_eq0 (by omega)]; omega) ?_
    rw [pk_rem (by omega) (by omega) (by omega)]
    refine go_iload_n (i := 1) (pc := 16) dX11_walked_16 rfl rfl ?_
    first | with_reducible refine go_iaddN (pc := 17) dX11_walked_17 ?_ | refine go_iadd (pc := 17) dX11_walked_17 ?_
    refine go_iload_n (i := 3) (pc := 18) dX11_walked_18 rfl rfl ?_
    refine go_irem (pc := 19) dX11_walked_19 (by rw [zn_eq0 (by omega)]; omega) ?_
    rw [pk_rem (by omega) (by omega) (by omega)]
    refine go_istore (pc := 20) dX11_walked_20 (by decide) ?_
    refine go_iload (pc := 22) dX11_walked_22 rfl ?_
    refine go_iload_n (i := 2) (pc := 24) dX11_walked_24 rfl rfl ?_
    refine go_icmp_ge 33 (pc := 25) dX11_walked_25 (by decide) (fun h25 => ?_) (fun h25 => ?_)
    · first | rw [nI_leI (by omega) (by omega)] at h25 | rw [zi_leN (by omega)] at h25 | rw [zi_Nle (by omega)] at h25 | rw [zi_le] at h25
      refine go_iload_n (i := 3) (pc := 33) dX11_walked_33 rfl rfl ?_
      refine go_iload (pc := 34) dX11_walked_34 rfl ?_
      first | with_reducible refine go_isubN (pc := 36) dX11_walked_36 (by omega) ?_ | refine go_isub (pc := 36) dX11_walked_36 ?_
      refine go_ireturn (pc := 37) dX11_walked_37 rfl ?_
      unfold wlk
      first
        | (rw [if_pos (by omega)]; exact ⟨rfl, rfl⟩)
        | (rw [if_neg (by omega), if_pos (by omega)]; exact ⟨rfl, rfl⟩)
        | (rw [if_neg (by omega), if_neg (by omega)]; exact ⟨rfl, rfl⟩)
    · first | rw [nI_leI (by omega) (by omega)] at h25 | rw [zi_leN (by omega)] at h25 | rw [zi_Nle (by omega)] at h25 | rw [zi_le] at h25
      refine go_iload (pc := 28) dX11_walked_28 rfl ?_
      refine go_goto 37 (pc := 30) dX11_walked_30 (by decide) ?_
      refine go_ireturn (pc := 37) dX11_walked_37 rfl ?_
      unfold wlk
      first
        | (rw [if_pos (by omega)]; exact ⟨rfl, rfl⟩)
        | (rw [if_neg (by omega), if_pos (by omega)]; exact ⟨rfl, rfl⟩)
        | (rw [if_neg (by omega), if_neg (by omega)]; exact ⟨rfl, rfl⟩)
  · first | rw [nI_leI (by omega) (by omega)] at h2 | rw [zi_leN (by omega)] at h2 | rw [zi_Nle (by omega)] at h2 | rw [zi_le] at h2
    refine go_iconst (nI 0) (pc := 5) dX11_walked_5 (by decide) ?_
    refine go_ireturn (pc := 6) dX11_walked_6 rfl ?_
    unfold wlk
    first
      | (rw [if_pos (by omega)]; exact ⟨rfl, rfl⟩)
      | (rw [if_neg (by omega), if_pos (by omega)]; exact ⟨rfl, rfl⟩)
      | (rw [if_neg (by omega), if_neg (by omega)]; exact ⟨rfl, rfl⟩)

theorem c_X11_rounds {E : zE} {σ : zT} {tx : Nat × (Nat → Nat)} {bd : Nat × (Nat → Nat) × (Nat → Nat)} {sk : Nat × (Nat → Nat)} {tw : Nat × (Nat → Nat) × (Nat → Nat)} {xs : List Nat} {ld : Nat × (Nat → Nat)} {pa sh : Nat × (Nat → Nat → Nat)} {ru : Nat × (Nat → Nat) × (Nat → Nat)} {to : Nat × (Nat → Int64)} {n k : Int32} (hC : ClsIs σ tx bd sk tw xs ld pa sh ru to) : CalM E 2 yX11_rounds cX11_rounds 6 (some .int) [.ref (zA E 0 0), .int n, .int k] σ (fun r σ' => r = some (.int (if (1 ≤ n.toInt ∧ n.toInt ≤ 9 ∧ in0 k 60) then rnd k.toInt.toNat ld.1 n.toInt.toNat else -1)) ∧ ClsIs σ' tx bd sk tw xs ld pa sh ru (if (1 ≤ n.toInt ∧ n.toInt ≤ 9 ∧ in0 k 60) then (1, ln1 (bcE (rnd k.toInt.toNat ld.1 n.toInt.toNat)).toInt64) else to) ∧ Fr33 σ σ') := by
  refine cal_of_go (own := RX11) rfl (by decide +kernel) (Nat.le_of_ble_eq_true rfl) ?_
  have hL := hC.2.2.2.2.2.1
  have hn := hL.b
  have hok := hL.1
  have hB0 := hC.2.2.1
  have hnc := hB0.1
  have main : ∀ n1 k1 : Nat, n1 ≤ 9 → k1 ≤ 60 → GoM E 2 RX11 cX11_rounds 6 (some .int) (fun r σ' => r = some (.int (rnd k1 ld.1 n1)) ∧ ClsIs σ' tx bd sk tw xs ld pa sh ru (1, ln1 (bcE (rnd k1 ld.1 n1)).toInt64) ∧ Fr33 σ σ') σ 23 [(0, .ref (zA E 0 0)), (1, .int (nI n1)), (2, .int (nI k1))] [] := by
    intro n1 k1 hn1 hk1
    have loop : ∀ (i : Nat) (τ : zT), i ≤ n1 → (ClsIs τ tx bd sk tw xs ld pa sh ru to) → (Fr33 σ τ) → GoM E 2 RX11 cX11_rounds 6 (some .int) (fun r σ' => r = some (.int (rnd k1 ld.1 n1)) ∧ ClsIs σ' tx bd sk tw xs ld pa sh ru (1, ln1 (bcE (rnd k1 ld.1 n1)).toInt64) ∧ Fr33 σ σ') τ 41 [(0, .ref (zA E 0 0)), (1, .int (nI n1)), (2, .int (nI k1)), (3, .int (nI ld.1)), (4, .int (rnd k1 ld.1 i)), (5, .int (nI i))] [] := by
      intro i
      induction hj : n1 - i using Nat.strongRecOn generalizing i with
      | ind z ih =>
        intro τ hi hCt hF
        have hwl := wlk_lt (s := 2 * i) (k := k1) hn.1
        refine go_iload (pc := 41) dX11_rounds_41 rfl ?_
        refine go_iload_n (i := 1) (pc := 43) dX11_rounds_43 rfl rfl ?_
        refine go_icmp_ge 71 (pc := 44) dX11_rounds_44 (by decide) (fun h44 => ?_) (fun h44 => ?_)
        · first | rw [nI_leI (by omega) (by omega)] at h44 | rw [zi_leN (by omega)] at h44 | rw [zi_Nle (by omega)] at h44 | rw [zi_le] at h44
          have ei : i = n1 := by omega
          subst ei
          refine go_aload_n (i := 0) (pc := 71) dX11_rounds_71 rfl rfl ?_
          refine go_getr2 fl_X11_83 (pc := 72) dX11_rounds_72 (by first | rfl | (apply zL_ci <;> assumption) | (apply zR_ci <;> assumption)) (by first | rfl | (apply zL_in <;> first | assumption | decide) | (apply zR_in <;> first | assumption | decide)) (by first | rfl | (apply zL_fr0 <;> assumption) | (apply zL_fr1 <;> assumption) | (apply zR_fr0 <;> assumption) | (apply zR_fr1 <;> assumption) | (apply zR_fr2 <;> assumption) | (apply zR_fr3 <;> assumption)) ?_
          refine go_iload (pc := 75) dX11_rounds_75 rfl ?_
          refine go_callS ml_X11_271 mt_J6_bitCount_0f7a4 (pc := 77) dX11_rounds_77 (c_J6_bitCount_0f7a4) (by decide) (by decide) rfl rfl (Nat.le_of_ble_eq_true rfl) (fun r σ' hp => ?_)
          obtain ⟨rfl, hσ⟩ := hp
          rw [hσ]
          clear hσ σ'
          dsimp only [zRet]
          refine go_i2l (pc := 80) dX11_rounds_80 ?_
          refine go_callV ml_X11_300 mt_X9_one (pc := 81) dX11_rounds_81 (c_X9_one) (by first | rfl | (apply zL_cq <;> assumption) | (apply zR_cq <;> assumption)) rfl (by first | rfl | (apply zL_in <;> first | assumption | decide) | (apply zR_in <;> first | assumption | decide)) (by decide) (by decide) rfl rfl (Nat.le_of_ble_eq_true rfl) (fun r σ' hp => ?_)
          obtain ⟨rfl, hT4, hf4⟩ := hp
          dsimp only [zRet]
          refine go_iload (pc := 84) dX11_rounds_84 rfl ?_
          refine go_ireturn (pc := 86) dX11_rounds_86 rfl ?_
          exact ⟨rfl, hCt.setTo (to' := (1, _)) hf4 hT4, hF.tr (Fr33.of hf4 (by simp))⟩
        · first | rw [nI_leI (by omega) (by omega)] at h44 | rw [zi_leN (by omega)] at h44 | rw [zi_Nle (by omega)] at h44 | rw [zi_le] at h44
          refine go_iload (pc := 47) dX11_rounds_47 rfl ?_
          refine go_iconst (nI 1) (pc := 49) dX11_rounds_49 (by decide) ?_
          refine go_iconst (nI 2) (pc := 50) dX11_rounds_50 (by decide) ?_
          refine go_iload (pc := 51) dX11_rounds_51 rfl ?_
          first | with_reducible refine go_imulN (pc := 53) dX11_rounds_53 ?_ | refine go_imul (pc := 53) dX11_rounds_53 ?_
          refine go_iload_n (i := 2) (pc := 54) dX11_rounds_54 rfl rfl ?_
          refine go_iload_n (i := 3) (pc := 55) dX11_rounds_55 rfl rfl ?_
          refine go_callS ml_X11_347 mt_X11_walked (pc := 56) dX11_rounds_56 (c_X11_walked (by omega) (by omega) (by omega) (by omega)) (by decide) (by decide) rfl rfl (Nat.le_of_ble_eq_true rfl) (fun r σ' hp => ?_)
          obtain ⟨rfl, hσ⟩ := hp
          rw [hσ]
          clear hσ σ'
          dsimp only [zRet]
          refine go_ishl (pc := 59) dX11_rounds_59 ?_
          rw [zshlP _ (by omega)]
          refine go_iconst (-1) (pc := 60) dX11_rounds_60 (by decide) ?_
          refine go_ixor (pc := 61) dX11_rounds_61 ?_
          refine go_iand (pc := 62) dX11_rounds_62 ?_
          refine go_istore (pc := 63) dX11_rounds_63 (by decide) ?_
          refine go_iincN (pc := 65) dX11_rounds_65 rfl (by decide) ?_
          refine go_goto 41 (pc := 68) dX11_rounds_68 (by decide) ?_
          exact ih (n1 - (i + 1)) (by omega) (i + 1) rfl _ (by omega) hCt hF
    refine go_aload_n (i := 0) (pc := 23) dX11_rounds_23 rfl rfl ?_
    refine go_getr2 fl_X11_49 (pc := 24) dX11_rounds_24 (by first | rfl | (apply zL_ci <;> assumption) | (apply zR_ci <;> assumption)) (by first | rfl | (apply zL_in <;> first | assumption | decide) | (apply zR_in <;> first | assumption | decide)) (by first | rfl | (apply zL_fr0 <;> assumption) | (apply zL_fr1 <;> assumption) | (apply zR_fr0 <;> assumption) | (apply zR_fr1 <;> assumption) | (apply zR_fr2 <;> assumption) | (apply zR_fr3 <;> assumption)) ?_
    refine go_callV ml_X11_127 mt_X2_miles (pc := 27) dX11_rounds_27 (c_X2_miles rfl hL) (by first | rfl | (apply zL_cq <;> assumption) | (apply zR_cq <;> assumption)) rfl (by first | rfl | (apply zL_in <;> first | assumption | decide) | (apply zR_in <;> first | assumption | decide)) (by decide) (by decide) rfl rfl (Nat.le_of_ble_eq_true rfl) (fun r σ' hp => ?_)
    obtain ⟨rfl, hσ⟩ := hp
    rw [hσ]
    clear hσ σ'
    dsimp only [zRet]
    refine go_istore_n (i := 3) (pc := 30) dX11_rounds_30 rfl (by decide) ?_
    refine go_iconst (nI 1) (pc := 31) dX11_rounds_31 (by decide) ?_
    refine go_iload_n (i := 3) (pc := 32) dX11_rounds_32 rfl rfl ?_
    refine go_ishl (pc := 33) dX11_rounds_33 ?_
    rw [zshlP _ hn.2]
    have hpp : 0 < 2 ^ ld.1 := Nat.two_pow_pos _
    refine go_iconst (nI 1) (pc := 34) dX11_rounds_34 (by decide) ?_
    first | with_reducible refine go_isubN (pc := 35) dX11_rounds_35 (by omega) ?_ | refine go_isub (pc := 35) dX11_rounds_35 ?_
    refine go_istore (pc := 36) dX11_rounds_36 (by decide) ?_
    refine go_iconst (nI 0) (pc := 38) dX11_rounds_38 (by decide) ?_
    refine go_istore (pc := 39) dX11_rounds_39 (by decide) ?_
    exact loop 0 _ (by omega) hC Fr33.rf
  refine go_iload_n (i := 1) (pc := 0) dX11_rounds_0 rfl rfl ?_
  refine go_iconst (nI 1) (pc := 1) dX11_rounds_1 (by decide) ?_
  refine go_icmp_lt 21 (pc := 2) dX11_rounds_2 (by decide) (fun h2 => ?_) (fun h2 => ?_)
  · first | rw [nI_ltI (by omega) (by omega)] at h2 | rw [zi_ltN (by omega)] at h2 | rw [zi_Nlt (by omega)] at h2 | rw [zi_lt] at h2
    refine go_iconst (-1) (pc := 21) dX11_rounds_21 (by decide) ?_
    refine go_ireturn (pc := 22) dX11_rounds_22 rfl ?_
    rw [if_neg (by omega), if_neg (by omega)]
    exact ⟨rfl, hC, Fr33.rf⟩
  · first | rw [nI_ltI (by omega) (by omega)] at h2 | rw [zi_ltN (by omega)] at h2 | rw [zi_Nlt (by omega)] at h2 | rw [zi_lt] at h2
    refine go_iload_n (i := 1) (pc := 5) dX11_rounds_5 rfl rfl ?_
    refine go_bipush (nI 9) (pc := 6) dX11_rounds_6 (by decide) ?_
    refine go_icmp_gt 21 (pc := 8) dX11_rounds_8 (by decide) (fun h8 => ?_) (fun h8 => ?_)
    · first | rw [nI_ltI (by omega) (by omega)] at h8 | rw [zi_ltN (by omega)] at h8 | rw [zi_Nlt (by omega)] at h8 | rw [zi_lt] at h8
      refine go_iconst (-1) (pc := 21) dX11_rounds_21 (by decide) ?_
      refine go_ireturn (pc := 22) dX11_rounds_22 rfl ?_
      rw [if_neg (by omega), if_neg (by omega)]
      exact ⟨rfl, hC, Fr33.rf⟩
    · first | rw [nI_ltI (by omega) (by omega)] at h8 | rw [zi_ltN (by omega)] at h8 | rw [zi_Nlt (by omega)] at h8 | rw [zi_lt] at h8
      refine go_iload_n (i := 2) (pc := 11) dX11_rounds_11 rfl rfl ?_
      refine go_if_lt 21 (pc := 12) dX11_rounds_12 (by decide) (fun h12 => ?_) (fun h12 => ?_)
      · first | rw [zb_0d] at h12 | rw [zn_lt0 (by omega)] at h12 | rw [zi_lt0] at h12
        refine go_iconst (-1) (pc := 21) dX11_rounds_21 (by decide) ?_
        refine go_ireturn (pc := 22) dX11_rounds_22 rfl ?_
        rw [if_neg (by omega), if_neg (by omega)]
        exact ⟨rfl, hC, Fr33.rf⟩
      · first | rw [zb_0d] at h12 | rw [zn_lt0 (by omega)] at h12 | rw [zi_lt0] at h12
        refine go_iload_n (i := 2) (pc := 15) dX11_rounds_15 rfl rfl ?_
        refine go_bipush (nI 60) (pc := 16) dX11_rounds_16 (by decide) ?_
        refine go_icmp_le 23 (pc := 18) dX11_rounds_18 (by decide) (fun h18 => ?_) (fun h18 => ?_)
        · first | rw [nI_leI (by omega) (by omega)] at h18 | rw [zi_leN (by omega)] at h18 | rw [zi_Nle (by omega)] at h18 | rw [zi_le] at h18
          rw [if_pos (by omega : (1 ≤ n.toInt ∧ n.toInt ≤ 9 ∧ in0 k 60)), if_pos (by omega : (1 ≤ n.toInt ∧ n.toInt ≤ 9 ∧ in0 k 60))]
          have en1 := nI_of' (x := n) (by omega)
          generalize hqn1 : n.toInt.toNat = n1 at en1 ⊢
          have hn1 : n1 ≤ 9 := by omega
          subst en1
          have ek1 := nI_of' (x := k) (by omega)
          generalize hqk1 : k.toInt.toNat = k1 at ek1 ⊢
          have hk1 : k1 ≤ 60 := by omega
          subst ek1
          exact main n1 k1 hn1 hk1
        · first | rw [nI_leI (by omega) (by omega)] at h18 | rw [zi_leN (by omega)] at h18 | rw [zi_Nle (by omega)] at h18 | rw [zi_le] at h18
          refine go_iconst (-1) (pc := 21) dX11_rounds_21 (by decide) ?_
          refine go_ireturn (pc := 22) dX11_rounds_22 rfl ?_
          rw [if_neg (by omega), if_neg (by omega)]
          exact ⟨rfl, hC, Fr33.rf⟩

