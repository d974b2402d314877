/-! acts: what they answer and do to a row -/
def aPrice (ρ : Nat → Nat) (w v : Int32) : Int32 × (Nat → Nat) := if 0 ≤ w.toInt ∧ w.toInt ≤ 1 ∧ 0 ≤ v.toInt ∧ v.toInt ≤ 99 then (nI (ρ (25 + w.toInt.toNat)), va_up ρ (25 + w.toInt.toNat) v.toInt.toNat) else (-1, ρ)
def aGuard (n : Nat) (ρ : Nat → Nat) (m v : Int32) : Int32 × (Nat → Nat) := if 0 ≤ m.toInt ∧ m.toInt < (n : Int) ∧ 0 ≤ v.toInt ∧ v.toInt ≤ 9 then (nI (menSum n (va_up ρ (12 + m.toInt.toNat) v.toInt.toNat)), va_up ρ (12 + m.toInt.toNat) v.toInt.toNat) else (-1, ρ)
def aPlant (n : Nat) (ρ : Nat → Nat) (m v : Int32) : Int32 × (Nat → Nat) := if 0 ≤ m.toInt ∧ m.toInt < (n : Int) ∧ 1 ≤ v.toInt ∧ v.toInt ≤ 9 then (if (ρ 24).testBit m.toInt.toNat then (-2, ρ) else (nI (min 9 (ρ m.toInt.toNat + v.toInt.toNat)), va_up ρ m.toInt.toNat (min 9 (ρ m.toInt.toNat + v.toInt.toNat)))) else (-1, ρ)
def aGate (n : Nat) (ρ : Nat → Nat) (m : Int32) : Int32 × (Nat → Nat) := if 0 ≤ m.toInt ∧ m.toInt < (n : Int) then (nI (bcn (ρ 24 ^^^ 2 ^ m.toInt.toNat)), gateT ρ m.toInt.toNat) else (-1, ρ)
theorem gateT_24 (ρ : Nat → Nat) (m : Nat) : gateT ρ m 24 = ρ 24 ^^^ 2 ^ m := by unfold gateT; rw [va_at', if_pos rfl]
theorem clp_in {v : Nat} {M : Nat} (h : v ≤ M) (hM : M < 2 ^ 31) : clp (nI v) M = v := by rw [clp_N (by omega), if_neg (by omega)]

theorem c_X11_setPrice {E : zE} {σ : zT} {n : Nat} {ρ : Nat → Nat} {w v : Int32} (hL : LandIs σ 6 n ρ) : CalM E 1 yX11_setPrice cX11_setPrice 4 (some .int) [.ref (zA E 0 0), .int w, .int v] σ (fun r σ' => r = some (.int (aPrice ρ w v).1) ∧ LandIs σ' 6 n (aPrice ρ w v).2 ∧ FrG [6] σ σ') := by
  refine cal_of_go (own := RX11) rfl (by decide +kernel) (Nat.le_of_ble_eq_true rfl) ?_
  refine go_iload_n (i := 1) (pc := 0) dX11_setPrice_0 rfl rfl ?_
  refine go_if_lt 19 (pc := 1) dX11_setPrice_1 (by decide) (fun h1 => ?_) (fun h1 => ?_)
  · first | rw [zb_0d] at h1 | rw [zn_lt0 (by omega)] at h1 | rw [zi_lt0] at h1
    refine go_iconst (-1) (pc := 19) dX11_setPrice_19 (by decide) ?_
    refine go_ireturn (pc := 20) dX11_setPrice_20 rfl ?_
    unfold aPrice
    rw [if_neg (by omega)]
    exact ⟨rfl, hL, FrG.rf⟩
  · first | rw [zb_0d] at h1 | rw [zn_lt0 (by omega)] at h1 | rw [zi_lt0] at h1
    refine go_iload_n (i := 1) (pc := 4) dX11_setPrice_4 rfl rfl ?_
    refine go_iconst (nI 1) (pc := 5) dX11_setPrice_5 (by decide) ?_
    refine go_icmp_gt 19 (pc := 6) dX11_setPrice_6 (by decide) (fun h6 => ?_) (fun h6 => ?_)
    · first | rw [nI_ltI (by omega) (by omega)] at h6 | rw [zi_ltN (by omega)] at h6 | rw [zi_Nlt (by omega)] at h6 | rw [zi_lt] at h6
      refine go_iconst (-1) (pc := 19) dX11_setPrice_19 (by decide) ?_
      refine go_ireturn (pc := 20) dX11_setPrice_20 rfl ?_
      unfold aPrice
      rw [if_neg (by omega)]
      exact ⟨rfl, hL, FrG.rf⟩
    · first | rw [nI_ltI (by omega) (by omega)] at h6 | rw [zi_ltN (by omega)] at h6 | rw [zi_Nlt (by omega)] at h6 | rw [zi_lt] at h6
      refine go_iload_n (i := 2) (pc := 9) dX11_setPrice_9 rfl rfl ?_
      refine go_if_lt 19 (pc := 10) dX11_setPrice_10 (by decide) (fun h10 => ?_) (fun h10 => ?_)
      · first | rw [zb_0d] at h10 | rw [zn_lt0 (by omega)] at h10 | rw [zi_lt0] at h10
        refine go_iconst (-1) (pc := 19) dX11_setPrice_19 (by decide) ?_
        refine go_ireturn (pc := 20) dX11_setPrice_20 rfl ?_
        unfold aPrice
        rw [if_neg (by omega)]
        exact ⟨rfl, hL, FrG.rf⟩
      · first | rw [zb_0d] at h10 | rw [zn_lt0 (by omega)] at h10 | rw [zi_lt0] at h10
        refine go_iload_n (i := 2) (pc := 13) dX11_setPrice_13 rfl rfl ?_
        refine go_bipush (nI 99) (pc := 14) dX11_setPrice_14 (by decide) ?_
        refine go_icmp_le 21 (pc := 16) dX11_setPrice_16 (by decide) (fun h16 => ?_) (fun h16 => ?_)
        · first | rw [nI_leI (by omega) (by omega)] at h16 | rw [zi_leN (by omega)] at h16 | rw [zi_Nle (by omega)] at h16 | rw [zi_le] at h16
          have hin : 0 ≤ w.toInt ∧ w.toInt ≤ 1 ∧ 0 ≤ v.toInt ∧ v.toInt ≤ 99 := by omega
          unfold aPrice
          rw [if_pos hin]
          have ev := nI_of' (x := v) (by omega)
          generalize hqv : v.toInt.toNat = v1 at ev ⊢
          have hv1 : v1 ≤ 99 := by omega
          subst ev
          refine go_iload_n (i := 1) (pc := 21) dX11_setPrice_21 rfl rfl ?_
          refine go_if_ne 35 (pc := 22) dX11_setPrice_22 (by decide) (fun h22 => ?_) (fun h22 => ?_)
          · first | rw [zb_0d] at h22 | rw [zn_eq0 (by omega)] at h22 | rw [zi_eq0] at h22
            have ew : w.toInt.toNat = 1 := by omega
            rw [ew]
            refine go_aload_n (i := 0) (pc := 35) dX11_setPrice_35 rfl rfl ?_
            refine go_getr2 fl_X11_49 (pc := 36) dX11_setPrice_36 (by first | rfl | (apply zL_ci <;> assumption) | (apply zR_ci <;> assumption)) (by first | rfl | (apply zL_in <;> first | assumption | decide) | (apply zR_in <;> first | assumption | decide)) (by first | rfl | (apply zL_fr0 <;> assumption) | (apply zL_fr1 <;> assumption) | (apply zR_fr0 <;> assumption) | (apply zR_fr1 <;> assumption) | (apply zR_fr2 <;> assumption) | (apply zR_fr3 <;> assumption)) ?_
            refine go_callV ml_X11_250 mt_X2_dear (pc := 39) dX11_setPrice_39 (c_X2_dear rfl hL) (by first | rfl | (apply zL_cq <;> assumption) | (apply zR_cq <;> assumption)) rfl (by first | rfl | (apply zL_in <;> first | assumption | decide) | (apply zR_in <;> first | assumption | decide)) (by decide) (by decide) rfl rfl (Nat.le_of_ble_eq_true rfl) (fun r σ' hp => ?_)
            obtain ⟨rfl, hσ⟩ := hp
            rw [hσ]
            clear hσ σ'
            dsimp only [zRet]
            refine go_istore_n (i := 3) (pc := 42) dX11_setPrice_42 rfl (by decide) ?_
            refine go_iload_n (i := 1) (pc := 43) dX11_setPrice_43 rfl rfl ?_
            refine go_if_ne 58 (pc := 44) dX11_setPrice_44 (by decide) (fun h44 => ?_) (fun h44 => ?_)
            · first | rw [zb_0d] at h44 | rw [zn_eq0 (by omega)] at h44 | rw [zi_eq0] at h44
              try (exfalso; omega)
              all_goals (
                refine go_aload_n (i := 0) (pc := 58) dX11_setPrice_58 rfl rfl ?_
                refine go_getr2 fl_X11_49 (pc := 59) dX11_setPrice_59 (by first | rfl | (apply zL_ci <;> assumption) | (apply zR_ci <;> assumption)) (by first | rfl | (apply zL_in <;> first | assumption | decide) | (apply zR_in <;> first | assumption | decide)) (by first | rfl | (apply zL_fr0 <;> assumption) | (apply zL_fr1 <;> assumption) | (apply zR_fr0 <;> assumption) | (apply zR_fr1 <;> assumption) | (apply zR_fr2 <;> assumption) | (apply zR_fr3 <;> assumption)) ?_
                refine go_iload_n (i := 2) (pc := 62) dX11_setPrice_62 rfl rfl ?_
                refine go_callV ml_X11_257 mt_X2_setDear (pc := 63) dX11_setPrice_63 (c_X2_setDear rfl hL hv1) (by first | rfl | (apply zL_cq <;> assumption) | (apply zR_cq <;> assumption)) rfl (by first | rfl | (apply zL_in <;> first | assumption | decide) | (apply zR_in <;> first | assumption | decide)) (by decide) (by decide) rfl rfl (Nat.le_of_ble_eq_true rfl) (fun r σ' hp => ?_)
                obtain ⟨rfl, hL2, hf⟩ := hp
                dsimp only [zRet]
                refine go_iload_n (i := 3) (pc := 66) dX11_setPrice_66 rfl rfl ?_
                refine go_ireturn (pc := 67) dX11_setPrice_67 rfl ?_
                exact ⟨rfl, hL2, hf⟩)
            · first | rw [zb_0d] at h44 | rw [zn_eq0 (by omega)] at h44 | rw [zi_eq0] at h44
              try (exfalso; omega)
              all_goals (
                refine go_aload_n (i := 0) (pc := 47) dX11_setPrice_47 rfl rfl ?_
                refine go_getr2 fl_X11_49 (pc := 48) dX11_setPrice_48 (by first | rfl | (apply zL_ci <;> assumption) | (apply zR_ci <;> assumption)) (by first | rfl | (apply zL_in <;> first | assumption | decide) | (apply zR_in <;> first | assumption | decide)) (by first | rfl | (apply zL_fr0 <;> assumption) | (apply zL_fr1 <;> assumption) | (apply zR_fr0 <;> assumption) | (apply zR_fr1 <;> assumption) | (apply zR_fr2 <;> assumption) | (apply zR_fr3 <;> assumption)) ?_
                refine go_iload_n (i := 2) (pc := 51) dX11_setPrice_51 rfl rfl ?_
                refine go_callV ml_X11_253 mt_X2_setCheap (pc := 52) dX11_setPrice_52 (c_X2_setCheap rfl hL hv1) (by first | rfl | (apply zL_cq <;> assumption) | (apply zR_cq <;> assumption)) rfl (by first | rfl | (apply zL_in <;> first | assumption | decide) | (apply zR_in <;> first | assumption | decide)) (by decide) (by decide) rfl rfl (Nat.le_of_ble_eq_true rfl) (fun r σ' hp => ?_)
                obtain ⟨rfl, hL2, hf⟩ := hp
                dsimp only [zRet]
                refine go_goto 66 (pc := 55) dX11_setPrice_55 (by decide) ?_
                refine go_iload_n (i := 3) (pc := 66) dX11_setPrice_66 rfl rfl ?_
                refine go_ireturn (pc := 67) dX11_setPrice_67 rfl ?_
                exact ⟨rfl, hL2, hf⟩)
          · first | rw [zb_0d] at h22 | rw [zn_eq0 (by omega)] at h22 | rw [zi_eq0] at h22
            have ew : w.toInt.toNat = 0 := by omega
            rw [ew]
            refine go_aload_n (i := 0) (pc := 25) dX11_setPrice_25 rfl rfl ?_
            refine go_getr2 fl_X11_49 (pc := 26) dX11_setPrice_26 (by first | rfl | (apply zL_ci <;> assumption) | (apply zR_ci <;> assumption)) (by first | rfl | (apply zL_in <;> first | assumption | decide) | (apply zR_in <;> first | assumption | decide)) (by first | rfl | (apply zL_fr0 <;> assumption) | (apply zL_fr1 <;> assumption) | (apply zR_fr0 <;> assumption) | (apply zR_fr1 <;> assumption) | (apply zR_fr2 <;> assumption) | (apply zR_fr3 <;> assumption)) ?_
            refine go_callV ml_X11_247 mt_X2_cheap (pc := 29) dX11_setPrice_29 (c_X2_cheap rfl hL) (by first | rfl | (apply zL_cq <;> assumption) | (apply zR_cq <;> assumption)) rfl (by first | rfl | (apply zL_in <;> first | assumption | decide) | (apply zR_in <;> first | assumption | decide)) (by decide) (by decide) rfl rfl (Nat.le_of_ble_eq_true rfl) (fun r σ' hp => ?_)
            obtain ⟨rfl, hσ⟩ := hp
            rw [hσ]
            clear hσ σ'
            dsimp only [zRet]
            refine go_goto 42 (pc := 32) dX11_setPrice_32 (by decide) ?_
            refine go_istore_n (i := 3) (pc := 42) dX11_setPrice_42 rfl (by decide) ?_
            refine go_iload_n (i := 1) (pc := 43) dX11_setPrice_43 rfl rfl ?_
            refine go_if_ne 58 (pc := 44) dX11_setPrice_44 (by decide) (fun h44 => ?_) (fun h44 => ?_)
            · first | rw [zb_0d] at h44 | rw [zn_eq0 (by omega)] at h44 | rw [zi_eq0] at h44
              try (exfalso; omega)
              all_goals (
                refine go_aload_n (i := 0) (pc := 58) dX11_setPrice_58 rfl rfl ?_
                refine go_getr2 fl_X11_49 (pc := 59) dX11_setPrice_59 (by first | rfl | (apply zL_ci <;> assumption) | (apply zR_ci <;> assumption)) (by first | rfl | (apply zL_in <;> first | assumption | decide) | (apply zR_in <;> first | assumption | decide)) (by first | rfl | (apply zL_fr0 <;> assumption) | (apply zL_fr1 <;> assumption) | (apply zR_fr0 <;> assumption) | (apply zR_fr1 <;> assumption) | (apply zR_fr2 <;> assumption) | (apply zR_fr3 <;> assumption)) ?_
                refine go_iload_n (i := 2) (pc := 62) dX11_setPrice_62 rfl rfl ?_
                refine go_callV ml_X11_257 mt_X2_setDear (pc := 63) dX11_setPrice_63 (c_X2_setDear rfl hL hv1) (by first | rfl | (apply zL_cq <;> assumption) | (apply zR_cq <;> assumption)) rfl (by first | rfl | (apply zL_in <;> first | assumption | decide) | (apply zR_in <;> first | assumption | decide)) (by decide) (by decide) rfl rfl (Nat.le_of_ble_eq_true rfl) (fun r σ' hp => ?_)
                obtain ⟨rfl, hL2, hf⟩ := hp
                dsimp only [zRet]
                refine go_iload_n (i := 3) (pc := 66) dX11_setPrice_66 rfl rfl ?_
                refine go_ireturn (pc := 67) dX11_setPrice_67 rfl ?_
                exact ⟨rfl, hL2, hf⟩)
            · first | rw [zb_0d] at h44 | rw [zn_eq0 (by omega)] at h44 | rw [zi_eq0] at h44
              try (exfalso; omega)
              all_goals (
                refine go_aload_n (i := 0) (pc := 47) dX11_setPrice_47 rfl rfl ?_
                refine go_getr2 fl_X11_49 (pc := 48) dX11_setPrice_48 (by first | rfl | (apply zL_ci <;> assumption) | (apply zR_ci <;> assumption)) (by first | rfl | (apply zL_in <;> first | assumption | decide) | (apply zR_in <;> first | assumption | decide)) (by first | rfl | (apply zL_fr0 <;> assumption) | (apply zL_fr1 <;> assumption) | (apply zR_fr0 <;> assumption) | (apply zR_fr1 <;> assumption) | (apply zR_fr2 <;> assumption) | (apply zR_fr3 <;> assumption)) ?_
                refine go_iload_n (i := 2) (pc := 51) dX11_setPrice_51 rfl rfl ?_
                refine go_callV ml_X11_253 mt_X2_setCheap (pc := 52) dX11_setPrice_52 (c_X2_setCheap rfl hL hv1) (by first | rfl | (apply zL_cq <;> assumption) | (apply zR_cq <;> assumption)) rfl (by first | rfl | (apply zL_in <;> first | assumption | decide) | (apply zR_in <;> first | assumption | decide)) (by decide) (by decide) rfl rfl (Nat.le_of_ble_eq_true rfl) (fun r σ' hp => ?_)
                obtain ⟨rfl, hL2, hf⟩ := hp
                dsimp only [zRet]
                refine go_goto 66 (pc := 55) dX11_setPrice_55 (by decide) ?_
                refine go_iload_n (i := 3) (pc := 66) dX11_setPrice_66 rfl rfl ?_
                refine go_ireturn (pc := 67) dX11_setPrice_67 rfl ?_
                exact ⟨rfl, hL2, hf⟩)
        · first | rw [nI_leI (by omega) (by omega)] at h16 | rw [zi_leN (by omega)] at h16 | rw [zi_Nle (by omega)] at h16 | rw [zi_le] at h16
          refine go_iconst (-1) (pc := 19) dX11_setPrice_19 (by decide) ?_
          refine go_ireturn (pc := 20) dX11_setPrice_20 rfl ?_
          unfold aPrice
          rw [if_neg (by omega)]
          exact ⟨rfl, hL, FrG.rf⟩

theorem c_X11_setGuard {E : zE} {σ : zT} {n : Nat} {ρ : Nat → Nat} {m v : Int32} (hL : LandIs σ 6 n ρ) : CalM E 2 yX11_setGuard cX11_setGuard 3 (some .int) [.ref (zA E 0 0), .int m, .int v] σ (fun r σ' => r = some (.int (aGuard n ρ m v).1) ∧ LandIs σ' 6 n (aGuard n ρ m v).2 ∧ FrG [6] σ σ') := by
  refine cal_of_go (own := RX11) rfl (by decide +kernel) (Nat.le_of_ble_eq_true rfl) ?_
  have hn := hL.b
  refine go_aload_n (i := 0) (pc := 0) dX11_setGuard_0 rfl rfl ?_
  refine go_getr2 fl_X11_49 (pc := 1) dX11_setGuard_1 (by first | rfl | (apply zL_ci <;> assumption) | (apply zR_ci <;> assumption)) (by first | rfl | (apply zL_in <;> first | assumption | decide) | (apply zR_in <;> first | assumption | decide)) (by first | rfl | (apply zL_fr0 <;> assumption) | (apply zL_fr1 <;> assumption) | (apply zR_fr0 <;> assumption) | (apply zR_fr1 <;> assumption) | (apply zR_fr2 <;> assumption) | (apply zR_fr3 <;> assumption)) ?_
  refine go_iload_n (i := 1) (pc := 4) dX11_setGuard_4 rfl rfl ?_
  refine go_callV ml_X11_144 mt_X2_has (pc := 5) dX11_setGuard_5 (c_X2_has rfl hL) (by first | rfl | (apply zL_cq <;> assumption) | (apply zR_cq <;> assumption)) rfl (by first | rfl | (apply zL_in <;> first | assumption | decide) | (apply zR_in <;> first | assumption | decide)) (by decide) (by decide) rfl rfl (Nat.le_of_ble_eq_true rfl) (fun r σ' hp => ?_)
  obtain ⟨rfl, hσ⟩ := hp
  rw [hσ]
  clear hσ σ'
  dsimp only [zRet]
  refine go_if_eq 21 (pc := 8) dX11_setGuard_8 (by decide) (fun h8 => ?_) (fun h8 => ?_)
  · first | rw [zb_0d] at h8 | rw [zn_eq0 (by omega)] at h8 | rw [zi_eq0] at h8
    refine go_iconst (-1) (pc := 21) dX11_setGuard_21 (by decide) ?_
    refine go_ireturn (pc := 22) dX11_setGuard_22 rfl ?_
    unfold aGuard
    rw [if_neg (by omega)]
    exact ⟨rfl, hL, FrG.rf⟩
  · first | rw [zb_0d] at h8 | rw [zn_eq0 (by omega)] at h8 | rw [zi_eq0] at h8
    refine go_iload_n (i := 2) (pc := 11) dX11_setGuard_11 rfl rfl ?_
    refine go_if_lt 21 (pc := 12) dX11_setGuard_12 (by decide) (fun h12 => ?_) (fun h12 => ?_)
    · first | rw [zb_0d] at h12 | rw [zn_lt0 (by omega)] at h12 | rw [zi_lt0] at h12
      refine go_iconst (-1) (pc := 21) dX11_setGuard_21 (by decide) ?_
      refine go_ireturn (pc := 22) dX11_setGuard_22 rfl ?_
      unfold aGuard
      rw [if_neg (by omega)]
      exact ⟨rfl, hL, FrG.rf⟩
    · first | rw [zb_0d] at h12 | rw [zn_lt0 (by omega)] at h12 | rw [zi_lt0] at h12
      refine go_iload_n (i := 2) (pc := 15) dX11_setGuard_15 rfl rfl ?_
      refine go_bipush (nI 9) (pc := 16) dX11_setGuard_16 (by decide) ?_
      refine go_icmp_le 23 (pc := 18) dX11_setGuard_18 (by decide) (fun h18 => ?_) (fun h18 => ?_)
      · first | rw [nI_leI (by omega) (by omega)] at h18 | rw [zi_leN (by omega)] at h18 | rw [zi_Nle (by omega)] at h18 | rw [zi_le] at h18
        have hin : 0 ≤ m.toInt ∧ m.toInt < (n : Int) ∧ 0 ≤ v.toInt ∧ v.toInt ≤ 9 := by omega
        unfold aGuard
        rw [if_pos hin]
        have em := nI_of' (x := m) (by omega)
        generalize hqm : m.toInt.toNat = m1 at em ⊢
        have hm1 : m1 < n := by omega
        have ev := nI_of' (x := v) (by omega)
        generalize hqv : v.toInt.toNat = v1 at ev ⊢
        have hv1 : v1 ≤ 9 := by omega
        subst ev
        subst em
        refine go_aload_n (i := 0) (pc := 23) dX11_setGuard_23 rfl rfl ?_
        refine go_getr2 fl_X11_49 (pc := 24) dX11_setGuard_24 (by first | rfl | (apply zL_ci <;> assumption) | (apply zR_ci <;> assumption)) (by first | rfl | (apply zL_in <;> first | assumption | decide) | (apply zR_in <;> first | assumption | decide)) (by first | rfl | (apply zL_fr0 <;> assumption) | (apply zL_fr1 <;> assumption) | (apply zR_fr0 <;> assumption) | (apply zR_fr1 <;> assumption) | (apply zR_fr2 <;> assumption) | (apply zR_fr3 <;> assumption)) ?_
        refine go_iload_n (i := 1) (pc := 27) dX11_setGuard_27 rfl rfl ?_
        refine go_iload_n (i := 2) (pc := 28) dX11_setGuard_28 rfl rfl ?_
        refine go_callV ml_X11_260 mt_X2_setMen (pc := 29) dX11_setGuard_29 (c_X2_setMen rfl hL hm1) (by first | rfl | (apply zL_cq <;> assumption) | (apply zR_cq <;> assumption)) rfl (by first | rfl | (apply zL_in <;> first | assumption | decide) | (apply zR_in <;> first | assumption | decide)) (by decide) (by decide) rfl rfl (Nat.le_of_ble_eq_true rfl) (fun r σ' hp => ?_)
        obtain ⟨rfl, hL2, hf⟩ := hp
        dsimp only [zRet]
        rw [clp_in hv1 (by decide)] at hL2
        refine go_aload_n (i := 0) (pc := 32) dX11_setGuard_32 rfl rfl ?_
        refine go_getr2 fl_X11_49 (pc := 33) dX11_setGuard_33 (by first | rfl | (apply zL_ci <;> assumption) | (apply zR_ci <;> assumption)) (by first | rfl | (apply zL_in <;> first | assumption | decide) | (apply zR_in <;> first | assumption | decide)) (by first | rfl | (apply zL_fr0 <;> assumption) | (apply zL_fr1 <;> assumption) | (apply zR_fr0 <;> assumption) | (apply zR_fr1 <;> assumption) | (apply zR_fr2 <;> assumption) | (apply zR_fr3 <;> assumption)) ?_
        refine go_callV ml_X11_263 mt_X2_allMen (pc := 36) dX11_setGuard_36 (c_X2_allMen rfl hL2) (by first | rfl | (apply zL_cq <;> assumption) | (apply zR_cq <;> assumption)) rfl (by first | rfl | (apply zL_in <;> first | assumption | decide) | (apply zR_in <;> first | assumption | decide)) (by decide) (by decide) rfl rfl (Nat.le_of_ble_eq_true rfl) (fun r σ' hp => ?_)
        obtain ⟨rfl, hσ⟩ := hp
        rw [hσ]
        clear hσ σ'
        dsimp only [zRet]
        refine go_ireturn (pc := 39) dX11_setGuard_39 rfl ?_
        exact ⟨rfl, hL2, hf⟩
      · first | rw [nI_leI (by omega) (by omega)] at h18 | rw [zi_leN (by omega)] at h18 | rw [zi_Nle (by omega)] at h18 | rw [zi_le] at h18
        refine go_iconst (-1) (pc := 21) dX11_setGuard_21 (by decide) ?_
        refine go_ireturn (pc := 22) dX11_setGuard_22 rfl ?_
        unfold aGuard
        rw [if_neg (by omega)]
        exact ⟨rfl, hL, FrG.rf⟩

theorem c_X11_addThorns {E : zE} {σ : zT} {n : Nat} {ρ : Nat → Nat} {m v : Int32} (hL : LandIs σ 6 n ρ) : CalM E 2 yX11_addThorns cX11_addThorns 3 (some .int) [.ref (zA E 0 0), .int m, .int v] σ (fun r σ' => r = some (.int (aPlant n ρ m v).1) ∧ LandIs σ' 6 n (aPlant n ρ m v).2 ∧ FrG [6] σ σ') := by
  refine cal_of_go (own := RX11) rfl (by decide +kernel) (Nat.le_of_ble_eq_true rfl) ?_
  have hn := hL.b
  refine go_aload_n (i := 0) (pc := 0) dX11_addThorns_0 rfl rfl ?_
  refine go_getr2 fl_X11_49 (pc := 1) dX11_addThorns_1 (by first | rfl | (apply zL_ci <;> assumption) | (apply zR_ci <;> assumption)) (by first | rfl | (apply zL_in <;> first | assumption | decide) | (apply zR_in <;> first | assumption | decide)) (by first | rfl | (apply zL_fr0 <;> assumption) | (apply zL_fr1 <;> assumption) | (apply zR_fr0 <;> assumption) | (apply zR_fr1 <;> assumption) | (apply zR_fr2 <;> assumption) | (apply zR_fr3 <;> assumption)) ?_
  refine go_iload_n (i := 1) (pc := 4) dX11_addThorns_4 rfl rfl ?_
  refine go_callV ml_X11_144 mt_X2_has (pc := 5) dX11_addThorns_5 (c_X2_has rfl hL) (by first | rfl | (apply zL_cq <;> assumption) | (apply zR_cq <;> assumption)) rfl (by first | rfl | (apply zL_in <;> first | assumption | decide) | (apply zR_in <;> first | assumption | decide)) (by decide) (by decide) rfl rfl (Nat.le_of_ble_eq_true rfl) (fun r σ' hp => ?_)
  obtain ⟨rfl, hσ⟩ := hp
  rw [hσ]
  clear hσ σ'
  dsimp only [zRet]
  refine go_if_eq 22 (pc := 8) dX11_addThorns_8 (by decide) (fun h8 => ?_) (fun h8 => ?_)
  · first | rw [zb_0d] at h8 | rw [zn_eq0 (by omega)] at h8 | rw [zi_eq0] at h8
    refine go_iconst (-1) (pc := 22) dX11_addThorns_22 (by decide) ?_
    refine go_ireturn (pc := 23) dX11_addThorns_23 rfl ?_
    unfold aPlant
    rw [if_neg (by omega)]
    exact ⟨rfl, hL, FrG.rf⟩
  · first | rw [zb_0d] at h8 | rw [zn_eq0 (by omega)] at h8 | rw [zi_eq0] at h8
    refine go_iload_n (i := 2) (pc := 11) dX11_addThorns_11 rfl rfl ?_
    refine go_iconst (nI 1) (pc := 12) dX11_addThorns_12 (by decide) ?_
    refine go_icmp_lt 22 (pc := 13) dX11_addThorns_13 (by decide) (fun h13 => ?_) (fun h13 => ?_)
    · first | rw [nI_ltI (by omega) (by omega)] at h13 | rw [zi_ltN (by omega)] at h13 | rw [zi_Nlt (by omega)] at h13 | rw [zi_lt] at h13
      refine go_iconst (-1) (pc := 22) dX11_addThorns_22 (by decide) ?_
      refine go_ireturn (pc := 23) dX11_addThorns_23 rfl ?_
      unfold aPlant
      rw [if_neg (by omega)]
      exact ⟨rfl, hL, FrG.rf⟩
    · first | rw [nI_ltI (by omega) (by omega)] at h13 | rw [zi_ltN (by omega)] at h13 | rw [zi_Nlt (by omega)] at h13 | rw [zi_lt] at h13
      refine go_iload_n (i := 2) (pc := 16) dX11_addThorns_16 rfl rfl ?_
      refine go_bipush (nI 9) (pc := 17) dX11_addThorns_17 (by decide) ?_
      refine go_icmp_le 24 (pc := 19) dX11_addThorns_19 (by decide) (fun h19 => ?_) (fun h19 => ?_)
      · first | rw [nI_leI (by omega) (by omega)] at h19 | rw [zi_leN (by omega)] at h19 | rw [zi_Nle (by omega)] at h19 | rw [zi_le] at h19
        have hin : 0 ≤ m.toInt ∧ m.toInt < (n : Int) ∧ 1 ≤ v.toInt ∧ v.toInt ≤ 9 := by omega
        unfold aPlant
        rw [if_pos hin]
        have em := nI_of' (x := m) (by omega)
        generalize hqm : m.toInt.toNat = m1 at em ⊢
        have hm1 : m1 < n := by omega
        have ev := nI_of' (x := v) (by omega)
        generalize hqv : v.toInt.toNat = v1 at ev ⊢
        have hv1 : v1 ≤ 9 := by omega
        subst ev
        subst em
        have h9 := hL.1.2.2.1 m1 (by omega)
        refine go_aload_n (i := 0) (pc := 24) dX11_addThorns_24 rfl rfl ?_
        refine go_getr2 fl_X11_49 (pc := 25) dX11_addThorns_25 (by first | rfl | (apply zL_ci <;> assumption) | (apply zR_ci <;> assumption)) (by first | rfl | (apply zL_in <;> first | assumption | decide) | (apply zR_in <;> first | assumption | decide)) (by first | rfl | (apply zL_fr0 <;> assumption) | (apply zL_fr1 <;> assumption) | (apply zR_fr0 <;> assumption) | (apply zR_fr1 <;> assumption) | (apply zR_fr2 <;> assumption) | (apply zR_fr3 <;> assumption)) ?_
        refine go_iload_n (i := 1) (pc := 28) dX11_addThorns_28 rfl rfl ?_
        refine go_callV ml_X11_153 mt_X2_hasGate (pc := 29) dX11_addThorns_29 (c_X2_hasGate rfl hL hm1) (by first | rfl | (apply zL_cq <;> assumption) | (apply zR_cq <;> assumption)) rfl (by first | rfl | (apply zL_in <;> first | assumption | decide) | (apply zR_in <;> first | assumption | decide)) (by decide) (by decide) rfl rfl (Nat.le_of_ble_eq_true rfl) (fun r σ' hp => ?_)
        obtain ⟨rfl, hσ⟩ := hp
        rw [hσ]
        clear hσ σ'
        dsimp only [zRet]
        refine go_if_eq 38 (pc := 32) dX11_addThorns_32 (by decide) (fun h32 => ?_) (fun h32 => ?_)
        · rw [zb_0] at h32
          rw [h32]
          refine go_aload_n (i := 0) (pc := 38) dX11_addThorns_38 rfl rfl ?_
          refine go_getr2 fl_X11_49 (pc := 39) dX11_addThorns_39 (by first | rfl | (apply zL_ci <;> assumption) | (apply zR_ci <;> assumption)) (by first | rfl | (apply zL_in <;> first | assumption | decide) | (apply zR_in <;> first | assumption | decide)) (by first | rfl | (apply zL_fr0 <;> assumption) | (apply zL_fr1 <;> assumption) | (apply zR_fr0 <;> assumption) | (apply zR_fr1 <;> assumption) | (apply zR_fr2 <;> assumption) | (apply zR_fr3 <;> assumption)) ?_
          refine go_iload_n (i := 1) (pc := 42) dX11_addThorns_42 rfl rfl ?_
          refine go_aload_n (i := 0) (pc := 43) dX11_addThorns_43 rfl rfl ?_
          refine go_getr2 fl_X11_49 (pc := 44) dX11_addThorns_44 (by first | rfl | (apply zL_ci <;> assumption) | (apply zR_ci <;> assumption)) (by first | rfl | (apply zL_in <;> first | assumption | decide) | (apply zR_in <;> first | assumption | decide)) (by first | rfl | (apply zL_fr0 <;> assumption) | (apply zL_fr1 <;> assumption) | (apply zR_fr0 <;> assumption) | (apply zR_fr1 <;> assumption) | (apply zR_fr2 <;> assumption) | (apply zR_fr3 <;> assumption)) ?_
          refine go_iload_n (i := 1) (pc := 47) dX11_addThorns_47 rfl rfl ?_
          refine go_callV ml_X11_150 mt_X2_hedgeAt (pc := 48) dX11_addThorns_48 (c_X2_hedgeAt rfl hL hm1) (by first | rfl | (apply zL_cq <;> assumption) | (apply zR_cq <;> assumption)) rfl (by first | rfl | (apply zL_in <;> first | assumption | decide) | (apply zR_in <;> first | assumption | decide)) (by decide) (by decide) rfl rfl (Nat.le_of_ble_eq_true rfl) (fun r σ' hp => ?_)
          obtain ⟨rfl, hσ⟩ := hp
          rw [hσ]
          clear hσ σ'
          dsimp only [zRet]
          refine go_iload_n (i := 2) (pc := 51) dX11_addThorns_51 rfl rfl ?_
          first | with_reducible refine go_iaddN (pc := 52) dX11_addThorns_52 ?_ | refine go_iadd (pc := 52) dX11_addThorns_52 ?_
          refine go_callV ml_X11_191 mt_X2_setHedge (pc := 53) dX11_addThorns_53 (c_X2_setHedge rfl hL hm1) (by first | rfl | (apply zL_cq <;> assumption) | (apply zR_cq <;> assumption)) rfl (by first | rfl | (apply zL_in <;> first | assumption | decide) | (apply zR_in <;> first | assumption | decide)) (by decide) (by decide) rfl rfl (Nat.le_of_ble_eq_true rfl) (fun r σ' hp => ?_)
          obtain ⟨rfl, hL2, hf⟩ := hp
          dsimp only [zRet]
          have ec : clp (nI (ρ m1 + v1)) 9 = min 9 (ρ m1 + v1) := by rw [clp_N (by omega)]; split <;> omega
          rw [ec] at hL2
          refine go_aload_n (i := 0) (pc := 56) dX11_addThorns_56 rfl rfl ?_
          refine go_getr2 fl_X11_49 (pc := 57) dX11_addThorns_57 (by first | rfl | (apply zL_ci <;> assumption) | (apply zR_ci <;> assumption)) (by first | rfl | (apply zL_in <;> first | assumption | decide) | (apply zR_in <;> first | assumption | decide)) (by first | rfl | (apply zL_fr0 <;> assumption) | (apply zL_fr1 <;> assumption) | (apply zR_fr0 <;> assumption) | (apply zR_fr1 <;> assumption) | (apply zR_fr2 <;> assumption) | (apply zR_fr3 <;> assumption)) ?_
          refine go_iload_n (i := 1) (pc := 60) dX11_addThorns_60 rfl rfl ?_
          refine go_callV ml_X11_150 mt_X2_hedgeAt (pc := 61) dX11_addThorns_61 (c_X2_hedgeAt rfl hL2 hm1) (by first | rfl | (apply zL_cq <;> assumption) | (apply zR_cq <;> assumption)) rfl (by first | rfl | (apply zL_in <;> first | assumption | decide) | (apply zR_in <;> first | assumption | decide)) (by decide) (by decide) rfl rfl (Nat.le_of_ble_eq_true rfl) (fun r σ' hp => ?_)
          obtain ⟨rfl, hσ⟩ := hp
          rw [hσ]
          clear hσ σ'
          dsimp only [zRet]
          refine go_ireturn (pc := 64) dX11_addThorns_64 rfl ?_
          rw [va_at', if_pos rfl]
          exact ⟨rfl, hL2, hf⟩
        · rw [zb_0] at h32
          have hgt : (ρ 24).testBit m1 = true := by simpa using h32
          rw [hgt]
          refine go_bipush (-2) (pc := 35) dX11_addThorns_35 (by decide) ?_
          refine go_ireturn (pc := 37) dX11_addThorns_37 rfl ?_
          exact ⟨rfl, hL, FrG.rf⟩
      · first | rw [nI_leI (by omega) (by omega)] at h19 | rw [zi_leN (by omega)] at h19 | rw [zi_Nle (by omega)] at h19 | rw [zi_le] at h19
        refine go_iconst (-1) (pc := 22) dX11_addThorns_22 (by decide) ?_
        refine go_ireturn (pc := 23) dX11_addThorns_23 rfl ?_
        unfold aPlant
        rw [if_neg (by omega)]
        exact ⟨rfl, hL, FrG.rf⟩

theorem c_X11_turnGate {E : zE} {σ : zT} {n : Nat} {ρ : Nat → Nat} {m : Int32} (hL : LandIs σ 6 n ρ) : CalM E 3 yX11_turnGate cX11_turnGate 2 (some .int) [.ref (zA E 0 0), .int m] σ (fun r σ' => r = some (.int (aGate n ρ m).1) ∧ LandIs σ' 6 n (aGate n ρ m).2 ∧ FrG [6] σ σ') := by
  refine cal_of_go (own := RX11) rfl (by decide +kernel) (Nat.le_of_ble_eq_true rfl) ?_
  have hn := hL.b
  refine go_aload_n (i := 0) (pc := 0) dX11_turnGate_0 rfl rfl ?_
  refine go_getr2 fl_X11_49 (pc := 1) dX11_turnGate_1 (by first | rfl | (apply zL_ci <;> assumption) | (apply zR_ci <;> assumption)) (by first | rfl | (apply zL_in <;> first | assumption | decide) | (apply zR_in <;> first | assumption | decide)) (by first | rfl | (apply zL_fr0 <;> assumption) | (apply zL_fr1 <;> assumption) | (apply zR_fr0 <;> assumption) | (apply zR_fr1 <;> assumption) | (apply zR_fr2 <;> assumption) | (apply zR_fr3 <;> assumption)) ?_
  refine go_iload_n (i := 1) (pc := 4) dX11_turnGate_4 rfl rfl ?_
  refine go_callV ml_X11_144 mt_X2_has (pc := 5) dX11_turnGate_5 (c_X2_has rfl hL) (by first | rfl | (apply zL_cq <;> assumption) | (apply zR_cq <;> assumption)) rfl (by first | rfl | (apply zL_in <;> first | assumption | decide) | (apply zR_in <;> first | assumption | decide)) (by decide) (by decide) rfl rfl (Nat.le_of_ble_eq_true rfl) (fun r σ' hp => ?_)
  obtain ⟨rfl, hσ⟩ := hp
  rw [hσ]
  clear hσ σ'
  dsimp only [zRet]
  refine go_if_ne 13 (pc := 8) dX11_turnGate_8 (by decide) (fun h8 => ?_) (fun h8 => ?_)
  · first | rw [zb_0d] at h8 | rw [zn_eq0 (by omega)] at h8 | rw [zi_eq0] at h8
    have hin : 0 ≤ m.toInt ∧ m.toInt < (n : Int) := by omega
    unfold aGate
    rw [if_pos hin]
    have em := nI_of' (x := m) (by omega)
    generalize hqm : m.toInt.toNat = m1 at em ⊢
    have hm1 : m1 < n := by omega
    subst em
    refine go_aload_n (i := 0) (pc := 13) dX11_turnGate_13 rfl rfl ?_
    refine go_getr2 fl_X11_49 (pc := 14) dX11_turnGate_14 (by first | rfl | (apply zL_ci <;> assumption) | (apply zR_ci <;> assumption)) (by first | rfl | (apply zL_in <;> first | assumption | decide) | (apply zR_in <;> first | assumption | decide)) (by first | rfl | (apply zL_fr0 <;> assumption) | (apply zL_fr1 <;> assumption) | (apply zR_fr0 <;> assumption) | (apply zR_fr1 <;> assumption) | (apply zR_fr2 <;> assumption) | (apply zR_fr3 <;> assumption)) ?_
    refine go_iload_n (i := 1) (pc := 17) dX11_turnGate_17 rfl rfl ?_
    refine go_callV ml_X11_266 mt_X2_turnGate (pc := 18) dX11_turnGate_18 (c_X2_turnGate rfl hL hm1) (by first | rfl | (apply zL_cq <;> assumption) | (apply zR_cq <;> assumption)) rfl (by first | rfl | (apply zL_in <;> first | assumption | decide) | (apply zR_in <;> first | assumption | decide)) (by decide) (by decide) rfl rfl (Nat.le_of_ble_eq_true rfl) (fun r σ' hp => ?_)
    obtain ⟨rfl, hL2, hf⟩ := hp
    dsimp only [zRet]
    refine go_aload_n (i := 0) (pc := 21) dX11_turnGate_21 rfl rfl ?_
    refine go_getr2 fl_X11_49 (pc := 22) dX11_turnGate_22 (by first | rfl | (apply zL_ci <;> assumption) | (apply zR_ci <;> assumption)) (by first | rfl | (apply zL_in <;> first | assumption | decide) | (apply zR_in <;> first | assumption | decide)) (by first | rfl | (apply zL_fr0 <;> assumption) | (apply zL_fr1 <;> assumption) | (apply zR_fr0 <;> assumption) | (apply zR_fr1 <;> assumption) | (apply zR_fr2 <;> assumption) | (apply zR_fr3 <;> assumption)) ?_
    refine go_callV ml_X11_268 mt_X2_gates (pc := 25) dX11_turnGate_25 (c_X2_gates rfl hL2) (by first | rfl | (apply zL_cq <;> assumption) | (apply zR_cq <;> assumption)) rfl (by first | rfl | (apply zL_in <;> first | assumption | decide) | (apply zR_in <;> first | assumption | decide)) (by decide) (by decide) rfl rfl (Nat.le_of_ble_eq_true rfl) (fun r σ' hp => ?_)
    obtain ⟨rfl, hσ⟩ := hp
    rw [hσ]
    clear hσ σ'
    dsimp only [zRet]
    refine go_callS ml_X11_271 mt_J6_bitCount_0f7a4 (pc := 28) dX11_turnGate_28 (c_bc hL2.g) (by decide) (by decide) rfl rfl (Nat.le_of_ble_eq_true rfl) (fun r σ' hp => ?_)
    obtain ⟨rfl, hσ⟩ := hp
    rw [hσ]
    clear hσ σ'
    dsimp only [zRet]
    refine go_ireturn (pc := 31) dX11_turnGate_31 rfl ?_
    rw [gateT_24]
    exact ⟨rfl, hL2, hf⟩
  · first | rw [zb_0d] at h8 | rw [zn_eq0 (by omega)] at h8 | rw [zi_eq0] at h8
    refine go_iconst (-1) (pc := 11) dX11_turnGate_11 (by decide) ?_
    refine go_ireturn (pc := 12) dX11_turnGate_12 rfl ?_
    unfold aGate
    rw [if_neg (by omega)]
    exact ⟨rfl, hL, FrG.rf⟩

/-- what can be undone behind an act that answered a -/
def pshA (a : Int32) (pa : Nat × (Nat → Nat → Nat)) (ρ : Nat → Nat) : Nat × (Nat → Nat → Nat) := if a.toInt < 0 then pa else (min (pa.1 + 1) 15, pushH pa.2 pa.1 ρ)

theorem c_X11_remembered {E : zE} {σ : zT} {tx : Nat × (Nat → Nat)} {bd : Nat × (Nat → Nat) × (Nat → Nat)} {sk : Nat × (Nat → Nat)} {tw : Nat × (Nat → Nat) × (Nat → Nat)} {xs : List Nat} {ld : Nat × (Nat → Nat)} {pa sh : Nat × (Nat → Nat → Nat)} {ru : Nat × (Nat → Nat) × (Nat → Nat)} {to : Nat × (Nat → Int64)} {a : Int32} {ρ : Nat → Nat} (hC : ClsIs σ tx bd sk tw xs ld pa sh ru to) (hb : LandIs σ 8 ld.1 ρ) : CalM E 3 yX11_remembered cX11_remembered 2 (some .int) [.ref (zA E 0 0), .int a] σ (fun r σ' => r = some (.int a) ∧ ClsIs σ' tx bd sk tw xs ld (pshA a pa ρ) sh ru to ∧ FrG pastS σ σ') := by
  refine cal_of_go (own := RX11) rfl (by decide +kernel) (Nat.le_of_ble_eq_true rfl) ?_
  refine go_iload_n (i := 1) (pc := 0) dX11_remembered_0 rfl rfl ?_
  refine go_if_lt 15 (pc := 1) dX11_remembered_1 (by decide) (fun h1 => ?_) (fun h1 => ?_)
  · first | rw [zb_0d] at h1 | rw [zn_lt0 (by omega)] at h1 | rw [zi_lt0] at h1
    refine go_iload_n (i := 1) (pc := 15) dX11_remembered_15 rfl rfl ?_
    refine go_ireturn (pc := 16) dX11_remembered_16 rfl ?_
    first
      | exact ⟨rfl, by unfold pshA; rw [if_pos h1]; exact hC, FrG.rf⟩
      | exact ⟨rfl, by unfold pshA; rw [if_neg h1]; exact hC.setP (pa' := (_, _)) hf hP2, hf⟩
  · first | rw [zb_0d] at h1 | rw [zn_lt0 (by omega)] at h1 | rw [zi_lt0] at h1
    obtain ⟨nx, hP⟩ := hC.2.2.2.2.2.2.1
    refine go_aload_n (i := 0) (pc := 4) dX11_remembered_4 rfl rfl ?_
    refine go_getr2 fl_X11_62 (pc := 5) dX11_remembered_5 (by first | rfl | (apply zL_ci <;> assumption) | (apply zR_ci <;> assumption)) (by first | rfl | (apply zL_in <;> first | assumption | decide) | (apply zR_in <;> first | assumption | decide)) (by first | rfl | (apply zL_fr0 <;> assumption) | (apply zL_fr1 <;> assumption) | (apply zR_fr0 <;> assumption) | (apply zR_fr1 <;> assumption) | (apply zR_fr2 <;> assumption) | (apply zR_fr3 <;> assumption)) ?_
    refine go_aload_n (i := 0) (pc := 8) dX11_remembered_8 rfl rfl ?_
    refine go_getr2 fl_X11_56 (pc := 9) dX11_remembered_9 (by first | rfl | (apply zL_ci <;> assumption) | (apply zR_ci <;> assumption)) (by first | rfl | (apply zL_in <;> first | assumption | decide) | (apply zR_in <;> first | assumption | decide)) (by first | rfl | (apply zL_fr0 <;> assumption) | (apply zL_fr1 <;> assumption) | (apply zR_fr0 <;> assumption) | (apply zR_fr1 <;> assumption) | (apply zR_fr2 <;> assumption) | (apply zR_fr3 <;> assumption)) ?_
    refine go_callV ml_X11_236 mt_X3_push (pc := 12) dX11_remembered_12 (c_X3_push hP rfl hb) (by first | rfl | (apply zL_cq <;> assumption) | (apply zR_cq <;> assumption)) rfl (by first | rfl | (apply zL_in <;> first | assumption | decide) | (apply zR_in <;> first | assumption | decide)) (by decide) (by decide) rfl rfl (Nat.le_of_ble_eq_true rfl) (fun r σ' hp => ?_)
    obtain ⟨rfl, hP2, hf⟩ := hp
    dsimp only [zRet]
    refine go_iload_n (i := 1) (pc := 15) dX11_remembered_15 rfl rfl ?_
    refine go_ireturn (pc := 16) dX11_remembered_16 rfl ?_
    first
      | exact ⟨rfl, by unfold pshA; rw [if_pos h1]; exact hC, FrG.rf⟩
      | exact ⟨rfl, by unfold pshA; rw [if_neg h1]; exact hC.setP (pa' := (_, _)) hf hP2, hf⟩

theorem c_X11_price {E : zE} {σ : zT} {tx : Nat × (Nat → Nat)} {bd : Nat × (Nat → Nat) × (Nat → Nat)} {sk : Nat × (Nat → Nat)} {tw : Nat × (Nat → Nat) × (Nat → Nat)} {xs : List Nat} {ld : Nat × (Nat → Nat)} {pa sh : Nat × (Nat → Nat → Nat)} {ru : Nat × (Nat → Nat) × (Nat → Nat)} {to : Nat × (Nat → Int64)} {w v : Int32} (hC : ClsIs σ tx bd sk tw xs ld pa sh ru to) : CalM E 5 yX11_price cX11_price 3 (some .int) [.ref (zA E 0 0), .int w, .int v] σ (fun r σ' => r = some (.int (aPrice ld.2 w v).1) ∧ ClsIs σ' tx bd sk tw xs (ld.1, (aPrice ld.2 w v).2) (pshA (aPrice ld.2 w v).1 pa ld.2) sh ru to ∧ Fr33 σ σ') := by
  refine cal_of_go (own := RX11) rfl (by decide +kernel) (Nat.le_of_ble_eq_true rfl) ?_
  have hL := hC.2.2.2.2.2.1
  refine go_aload_n (i := 0) (pc := 0) dX11_price_0 rfl rfl ?_
  refine go_getr2 fl_X11_56 (pc := 1) dX11_price_1 (by first | rfl | (apply zL_ci <;> assumption) | (apply zR_ci <;> assumption)) (by first | rfl | (apply zL_in <;> first | assumption | decide) | (apply zR_in <;> first | assumption | decide)) (by first | rfl | (apply zL_fr0 <;> assumption) | (apply zL_fr1 <;> assumption) | (apply zR_fr0 <;> assumption) | (apply zR_fr1 <;> assumption) | (apply zR_fr2 <;> assumption) | (apply zR_fr3 <;> assumption)) ?_
  refine go_aload_n (i := 0) (pc := 4) dX11_price_4 rfl rfl ?_
  refine go_getr2 fl_X11_49 (pc := 5) dX11_price_5 (by first | rfl | (apply zL_ci <;> assumption) | (apply zR_ci <;> assumption)) (by first | rfl | (apply zL_in <;> first | assumption | decide) | (apply zR_in <;> first | assumption | decide)) (by first | rfl | (apply zL_fr0 <;> assumption) | (apply zL_fr1 <;> assumption) | (apply zR_fr0 <;> assumption) | (apply zR_fr1 <;> assumption) | (apply zR_fr2 <;> assumption) | (apply zR_fr3 <;> assumption)) ?_
  refine go_callV ml_X11_198 mt_X2_copyFrom (pc := 8) dX11_price_8 (c_X2_copyFrom rfl rfl hL) (by first | rfl | (apply zL_cq <;> assumption) | (apply zR_cq <;> assumption)) rfl (by first | rfl | (apply zL_in <;> first | assumption | decide) | (apply zR_in <;> first | assumption | decide)) (by decide) (by decide) rfl rfl (Nat.le_of_ble_eq_true rfl) (fun r σ' hp => ?_)
  obtain ⟨rfl, hb, hf⟩ := hp
  dsimp only [zRet]
  have hC1 := hC.fr hf (by simp)
  have hL1 := hC1.2.2.2.2.2.1
  refine go_aload_n (i := 0) (pc := 11) dX11_price_11 rfl rfl ?_
  refine go_aload_n (i := 0) (pc := 12) dX11_price_12 rfl rfl ?_
  refine go_iload_n (i := 1) (pc := 13) dX11_price_13 rfl rfl ?_
  refine go_iload_n (i := 2) (pc := 14) dX11_price_14 rfl rfl ?_
  refine go_callV ml_X11_202 mt_X11_setPrice (pc := 15) dX11_price_15 (c_X11_setPrice hL1) (by first | rfl | (apply zL_cq <;> assumption) | (apply zR_cq <;> assumption)) rfl (by first | rfl | (apply zL_in <;> first | assumption | decide) | (apply zR_in <;> first | assumption | decide)) (by decide) (by decide) rfl rfl (Nat.le_of_ble_eq_true rfl) (fun r σ' hp => ?_)
  obtain ⟨rfl, hL2, hf2⟩ := hp
  dsimp only [zRet]
  have hC2 := hC1.setL hf2 hL2
  have hb2 := hb.fr hf2 (by decide)
  refine go_callV ml_X11_205 mt_X11_remembered (pc := 18) dX11_price_18 (c_X11_remembered hC2 hb2) (by first | rfl | (apply zL_cq <;> assumption) | (apply zR_cq <;> assumption)) rfl (by first | rfl | (apply zL_in <;> first | assumption | decide) | (apply zR_in <;> first | assumption | decide)) (by decide) (by decide) rfl rfl (Nat.le_of_ble_eq_true rfl) (fun r σ' hp => ?_)
  obtain ⟨rfl, hC3, hf3⟩ := hp
  dsimp only [zRet]
  refine go_ireturn (pc := 21) dX11_price_21 rfl ?_
  exact ⟨rfl, hC3, ((Fr33.of hf (by simp)).tr (Fr33.of hf2 (by simp))).tr (Fr33.of hf3 (by decide))⟩

theorem c_X11_guard {E : zE} {σ : zT} {tx : Nat × (Nat → Nat)} {bd : Nat × (Nat → Nat) × (Nat → Nat)} {sk : Nat × (Nat → Nat)} {tw : Nat × (Nat → Nat) × (Nat → Nat)} {xs : List Nat} {ld : Nat × (Nat → Nat)} {pa sh : Nat × (Nat → Nat → Nat)} {ru : Nat × (Nat → Nat) × (Nat → Nat)} {to : Nat × (Nat → Int64)} {m v : Int32} (hC : ClsIs σ tx bd sk tw xs ld pa sh ru to) : CalM E 5 yX11_guard cX11_guard 3 (some .int) [.ref (zA E 0 0), .int m, .int v] σ (fun r σ' => r = some (.int (aGuard ld.1 ld.2 m v).1) ∧ ClsIs σ' tx bd sk tw xs (ld.1, (aGuard ld.1 ld.2 m v).2) (pshA (aGuard ld.1 ld.2 m v).1 pa ld.2) sh ru to ∧ Fr33 σ σ') := by
  refine cal_of_go (own := RX11) rfl (by decide +kernel) (Nat.le_of_ble_eq_true rfl) ?_
  have hL := hC.2.2.2.2.2.1
  refine go_aload_n (i := 0) (pc := 0) dX11_guard_0 rfl rfl ?_
  refine go_getr2 fl_X11_56 (pc := 1) dX11_guard_1 (by first | rfl | (apply zL_ci <;> assumption) | (apply zR_ci <;> assumption)) (by first | rfl | (apply zL_in <;> first | assumption | decide) | (apply zR_in <;> first | assumption | decide)) (by first | rfl | (apply zL_fr0 <;> assumption) | (apply zL_fr1 <;> assumption) | (apply zR_fr0 <;> assumption) | (apply zR_fr1 <;> assumption) | (apply zR_fr2 <;> assumption) | (apply zR_fr3 <;> assumption)) ?_
  refine go_aload_n (i := 0) (pc := 4) dX11_guard_4 rfl rfl ?_
  refine go_getr2 fl_X11_49 (pc := 5) dX11_guard_5 (by first | rfl | (apply zL_ci <;> assumption) | (apply zR_ci <;> assumption)) (by first | rfl | (apply zL_in <;> first | assumption | decide) | (apply zR_in <;> first | assumption | decide)) (by first | rfl | (apply zL_fr0 <;> assumption) | (apply zL_fr1 <;> assumption) | (apply zR_fr0 <;> assumption) | (apply zR_fr1 <;> assumption) | (apply zR_fr2 <;> assumption) | (apply zR_fr3 <;> assumption)) ?_
  refine go_callV ml_X11_198 mt_X2_copyFrom (pc := 8) dX11_guard_8 (c_X2_copyFrom rfl rfl hL) (by first | rfl | (apply zL_cq <;> assumption) | (apply zR_cq <;> assumption)) rfl (by first | rfl | (apply zL_in <;> first | assumption | decide) | (apply zR_in <;> first | assumption | decide)) (by decide) (by decide) rfl rfl (Nat.le_of_ble_eq_true rfl) (fun r σ' hp => ?_)
  obtain ⟨rfl, hb, hf⟩ := hp
  dsimp only [zRet]
  have hC1 := hC.fr hf (by simp)
  have hL1 := hC1.2.2.2.2.2.1
  refine go_aload_n (i := 0) (pc := 11) dX11_guard_11 rfl rfl ?_
  refine go_aload_n (i := 0) (pc := 12) dX11_guard_12 rfl rfl ?_
  refine go_iload_n (i := 1) (pc := 13) dX11_guard_13 rfl rfl ?_
  refine go_iload_n (i := 2) (pc := 14) dX11_guard_14 rfl rfl ?_
  refine go_callV ml_X11_208 mt_X11_setGuard (pc := 15) dX11_guard_15 (c_X11_setGuard hL1) (by first | rfl | (apply zL_cq <;> assumption) | (apply zR_cq <;> assumption)) rfl (by first | rfl | (apply zL_in <;> first | assumption | decide) | (apply zR_in <;> first | assumption | decide)) (by decide) (by decide) rfl rfl (Nat.le_of_ble_eq_true rfl) (fun r σ' hp => ?_)
  obtain ⟨rfl, hL2, hf2⟩ := hp
  dsimp only [zRet]
  have hC2 := hC1.setL hf2 hL2
  have hb2 := hb.fr hf2 (by decide)
  refine go_callV ml_X11_205 mt_X11_remembered (pc := 18) dX11_guard_18 (c_X11_remembered hC2 hb2) (by first | rfl | (apply zL_cq <;> assumption) | (apply zR_cq <;> assumption)) rfl (by first | rfl | (apply zL_in <;> first | assumption | decide) | (apply zR_in <;> first | assumption | decide)) (by decide) (by decide) rfl rfl (Nat.le_of_ble_eq_true rfl) (fun r σ' hp => ?_)
  obtain ⟨rfl, hC3, hf3⟩ := hp
  dsimp only [zRet]
  refine go_ireturn (pc := 21) dX11_guard_21 rfl ?_
  exact ⟨rfl, hC3, ((Fr33.of hf (by simp)).tr (Fr33.of hf2 (by simp))).tr (Fr33.of hf3 (by decide))⟩

theorem c_X11_plant {E : zE} {σ : zT} {tx : Nat × (Nat → Nat)} {bd : Nat × (Nat → Nat) × (Nat → Nat)} {sk : Nat × (Nat → Nat)} {tw : Nat × (Nat → Nat) × (Nat → Nat)} {xs : List Nat} {ld : Nat × (Nat → Nat)} {pa sh : Nat × (Nat → Nat → Nat)} {ru : Nat × (Nat → Nat) × (Nat → Nat)} {to : Nat × (Nat → Int64)} {m v : Int32} (hC : ClsIs σ tx bd sk tw xs ld pa sh ru to) : CalM E 5 yX11_plant cX11_plant 3 (some .int) [.ref (zA E 0 0), .int m, .int v] σ (fun r σ' => r = some (.int (aPlant ld.1 ld.2 m v).1) ∧ ClsIs σ' tx bd sk tw xs (ld.1, (aPlant ld.1 ld.2 m v).2) (pshA (aPlant ld.1 ld.2 m v).1 pa ld.2) sh ru to ∧ Fr33 σ σ') := by
  refine cal_of_go (own := RX11) rfl (by decide +kernel) (Nat.le_of_ble_eq_true rfl) ?_
  have hL := hC.2.2.2.2.2.1
  refine go_aload_n (i := 0) (pc := 0) dX11_plant_0 rfl rfl ?_
  refine go_getr2 fl_X11_56 (pc := 1) dX11_plant_1 (by first | rfl | (apply zL_ci <;> assumption) | (apply zR_ci <;> assumption)) (by first | rfl | (apply zL_in <;> first | assumption | decide) | (apply zR_in <;> first | assumption | decide)) (by first | rfl | (apply zL_fr0 <;> assumption) | (apply zL_fr1 <;> assumption) | (apply zR_fr0 <;> assumption) | (apply zR_fr1 <;> assumption) | (apply zR_fr2 <;> assumption) | (apply zR_fr3 <;> assumption)) ?_
  refine go_aload_n (i := 0) (pc := 4) dX11_plant_4 rfl rfl ?_
  refine go_getr2 fl_X11_49 (pc := 5) dX11_plant_5 (by first | rfl | (apply zL_ci <;> assumption) | (apply zR_ci <;> assumption)) (by first | rfl | (apply zL_in <;> first | assumption | decide) | (apply zR_in <;> first | assumption | decide)) (by first | rfl | (apply zL_fr0 <;> assumption) | (apply zL_fr1 <;> assumption) | (apply zR_fr0 <;> assumption) | (apply zR_fr1 <;> assumption) | (apply zR_fr2 <;> assumption) | (apply zR_fr3 <;> assumption)) ?_
  refine go_callV ml_X11_198 mt_X2_copyFrom (pc := 8) dX11_plant_8 (c_X2_copyFrom rfl rfl hL) (by first | rfl | (apply zL_cq <;> assumption) | (apply zR_cq <;> assumption)) rfl (by first | rfl | (apply zL_in <;> first | assumption | decide) | (apply zR_in <;> first | assumption | decide)) (by decide) (by decide) rfl rfl (Nat.le_of_ble_eq_true rfl) (fun r σ' hp => ?_)
  obtain ⟨rfl, hb, hf⟩ := hp
  dsimp only [zRet]
  have hC1 := hC.fr hf (by simp)
  have hL1 := hC1.2.2.2.2.2.1
  refine go_aload_n (i := 0) (pc := 11) dX11_plant_11 rfl rfl ?_
  refine go_aload_n (i := 0) (pc := 12) dX11_plant_12 rfl rfl ?_
  refine go_iload_n (i := 1) (pc := 13) dX11_plant_13 rfl rfl ?_
  refine go_iload_n (i := 2) (pc := 14) dX11_plant_14 rfl rfl ?_
  refine go_callV ml_X11_211 mt_X11_addThorns (pc := 15) dX11_plant_15 (c_X11_addThorns hL1) (by first | rfl | (apply zL_cq <;> assumption) | (apply zR_cq <;> assumption)) rfl (by first | rfl | (apply zL_in <;> first | assumption | decide) | (apply zR_in <;> first | assumption | decide)) (by decide) (by decide) rfl rfl (Nat.le_of_ble_eq_true rfl) (fun r σ' hp => ?_)
  obtain ⟨rfl, hL2, hf2⟩ := hp
  dsimp only [zRet]
  have hC2 := hC1.setL hf2 hL2
  have hb2 := hb.fr hf2 (by decide)
  refine go_callV ml_X11_205 mt_X11_remembered (pc := 18) dX11_plant_18 (c_X11_remembered hC2 hb2) (by first | rfl | (apply zL_cq <;> assumption) | (apply zR_cq <;> assumption)) rfl (by first | rfl | (apply zL_in <;> first | assumption | decide) | (apply zR_in <;> first | assumption | decide)) (by decide) (by decide) rfl rfl (Nat.le_of_ble_eq_true rfl) (fun r σ' hp => ?_)
  obtain ⟨rfl, hC3, hf3⟩ := hp
  dsimp only [zRet]
  refine go_ireturn (pc := 21) dX11_plant_21 rfl ?_
  exact ⟨rfl, hC3, ((Fr33.of hf (by simp)).tr (Fr33.of hf2 (by simp))).tr (Fr33.of hf3 (by decide))⟩

theorem c_X11_gate {E : zE} {σ : zT} {tx : Nat × (Nat → Nat)} {bd : Nat × (Nat → Nat) × (Nat → Nat)} {sk : Nat × (Nat → Nat)} {tw : Nat × (Nat → Nat) × (Nat → Nat)} {xs : List Nat} {ld : Nat × (Nat → Nat)} {pa sh : Nat × (Nat → Nat → Nat)} {ru : Nat × (Nat → Nat) × (Nat → Nat)} {to : Nat × (Nat → Int64)} {m : Int32} (hC : ClsIs σ tx bd sk tw xs ld pa sh ru to) : CalM E 5 yX11_gate cX11_gate 2 (some .int) [.ref (zA E 0 0), .int m] σ (fun r σ' => r = some (.int (aGate ld.1 ld.2 m).1) ∧ ClsIs σ' tx bd sk tw xs (ld.1, (aGate ld.1 ld.2 m).2) (pshA (aGate ld.1 ld.2 m).1 pa ld.2) sh ru to ∧ Fr33 σ σ') := by
  refine cal_of_go (own := RX11) rfl (by decide +kernel) (Nat.le_of_ble_eq_true rfl) ?_
  have hL := hC.2.2.2.2.2.1
  refine go_aload_n (i := 0) (pc := 0) dX11_gate_0 rfl rfl ?_
  refine go_getr2 fl_X11_56 (pc := 1) dX11_gate_1 (by first | rfl | (apply zL_ci <;> assumption) | (apply zR_ci <;> assumption)) (by first | rfl | (apply zL_in <;> first | assumption | decide) | (apply zR_in <;> first | assumption | decide)) (by first | rfl | (apply zL_fr0 <;> assumption) | (apply zL_fr1 <;> assumption) | (apply zR_fr0 <;> assumption) | (apply zR_fr1 <;> assumption) | (apply zR_fr2 <;> assumption) | (apply zR_fr3 <;> assumption)) ?_
  refine go_aload_n (i := 0) (pc := 4) dX11_gate_4 rfl rfl ?_
  refine go_getr2 fl_X11_49 (pc := 5) dX11_gate_5 (by first | rfl | (apply zL_ci <;> assumption) | (apply zR_ci <;> assumption)) (by first | rfl | (apply zL_in <;> first | assumption | decide) | (apply zR_in <;> first | assumption | decide)) (by first | rfl | (apply zL_fr0 <;> assumption) | (apply zL_fr1 <;> assumption) | (apply zR_fr0 <;> assumption) | (apply zR_fr1 <;> assumption) | (apply zR_fr2 <;> assumption) | (apply zR_fr3 <;> assumption)) ?_
  refine go_callV ml_X11_198 mt_X2_copyFrom (pc := 8) dX11_gate_8 (c_X2_copyFrom rfl rfl hL) (by first | rfl | (apply zL_cq <;> assumption) | (apply zR_cq <;> assumption)) rfl (by first | rfl | (apply zL_in <;> first | assumption | decide) | (apply zR_in <;> first | assumption | decide)) (by decide) (by decide) rfl rfl (Nat.le_of_ble_eq_true rfl) (fun r σ' hp => ?_)
  obtain ⟨rfl, hb, hf⟩ := hp
  dsimp only [zRet]
  have hC1 := hC.fr hf (by simp)
  have hL1 := hC1.2.2.2.2.2.1
  refine go_aload_n (i := 0) (pc := 11) dX11_gate_11 rfl rfl ?_
  refine go_aload_n (i := 0) (pc := 12) dX11_gate_12 rfl rfl ?_
  refine go_iload_n (i := 1) (pc := 13) dX11_gate_13 rfl rfl ?_
  refine go_callV ml_X11_214 mt_X11_turnGate (pc := 14) dX11_gate_14 (c_X11_turnGate hL1) (by first | rfl | (apply zL_cq <;> assumption) | (apply zR_cq <;> assumption)) rfl (by first | rfl | (apply zL_in <;> first | assumption | decide) | (apply zR_in <;> first | assumption | decide)) (by decide) (by decide) rfl rfl (Nat.le_of_ble_eq_true rfl) (fun r σ' hp => ?_)
  obtain ⟨rfl, hL2, hf2⟩ := hp
  dsimp only [zRet]
  have hC2 := hC1.setL hf2 hL2
  have hb2 := hb.fr hf2 (by decide)
  refine go_callV ml_X11_205 mt_X11_remembered (pc := 17) dX11_gate_17 (c_X11_remembered hC2 hb2) (by first | rfl | (apply zL_cq <;> assumption) | (apply zR_cq <;> assumption)) rfl (by first | rfl | (apply zL_in <;> first | assumption | decide) | (apply zR_in <;> first | assumption | decide)) (by decide) (by decide) rfl rfl (Nat.le_of_ble_eq_true rfl) (fun r σ' hp => ?_)
  obtain ⟨rfl, hC3, hf3⟩ := hp
  dsimp only [zRet]
  refine go_ireturn (pc := 20) dX11_gate_20 rfl ?_
  exact ⟨rfl, hC3, ((Fr33.of hf (by simp)).tr (Fr33.of hf2 (by simp))).tr (Fr33.of hf3 (by decide))⟩

