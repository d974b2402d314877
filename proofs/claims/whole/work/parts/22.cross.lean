/-! who crosses where -/
def WIs (σ : zT) (kr kl : Nat) (V : zV) (ρ : Nat → Nat) : Prop := (zRl kr = true ∧ zL kl = true) ∧ (∃ xs, vX V = xs ∧ RuleIs σ kr xs) ∧ BandIs σ (vC V) (vK V) (vL V) ∧ SkyIs σ (vS V) (vW V) ∧ LandIs σ kl (vN V) ρ
theorem WIs.vok {σ : zT} {kr kl : Nat} {V : zV} {ρ : Nat → Nat} (h : WIs σ kr kl V ρ) : VOK V := by
  obtain ⟨-, ⟨xs, e, -⟩, hB, hS, hL⟩ := h
  exact ⟨hL.b.1, hL.b.2, hB.1, fun c hc => ⟨(hB.2.2 c hc).2.2.1, (hB.2.2 c hc).2.2.2.1, (hB.2.2 c hc).2.2.2.2⟩, hS.1, hS.2.1, fun i hi => (hS.2.2.2 i hi).2, fun a b c d f => rsk_le _ _ _ _ _ _⟩
theorem zR_no {kr kl : Nat} (h : zRl kr = true) (h2 : zL kl = true) : kr ≠ 2 ∧ kr ≠ 3 ∧ kr ≠ 5 ∧ kl ≠ 2 ∧ kl ≠ 3 ∧ kl ≠ 5 ∧ kl ≠ kr ∧ kr ≠ kl := by
  rcases zR_or h with rfl | rfl <;>
  (simp only [zL, Bool.or_eq_true, Bool.and_eq_true, Nat.ble_eq] at h2
   omega)
/-- what doesn't touch rule, carriers, weather, land -/
theorem WIs.fr {σ σ' : zT} {kr kl : Nat} {V : zV} {ρ : Nat → Nat} {S : List Nat} (h : WIs σ kr kl V ρ) (hf : FrG S σ σ') (hS : kr ∉ S ∧ 2 ∉ S ∧ 3 ∉ S ∧ kl ∉ S) : WIs σ' kr kl V ρ := by
  obtain ⟨h0, ⟨xs, e, hR⟩, hB, hK, hL⟩ := h
  exact ⟨h0, ⟨xs, e, hR.fr hf hS.1⟩, hB.fr hf hS.2.1, hK.fr hf hS.2.2.1, hL.fr hf hS.2.2.2⟩
theorem WIs.ld {σ σ' : zT} {kr kl : Nat} {V : zV} {ρ ρ' : Nat → Nat} (h : WIs σ kr kl V ρ) (hf : FrG [kl] σ σ') (hL : LandIs σ' kl (vN V) ρ') : WIs σ' kr kl V ρ' := by
  obtain ⟨h0, ⟨xs, e, hR⟩, hB, hK, -⟩ := h
  have hn := zR_no h0.1 h0.2
  exact ⟨h0, ⟨xs, e, hR.fr hf (by simp; omega)⟩, hB.fr hf (by simp; omega), hK.fr hf (by simp; omega), hL⟩
def dI (d : Option Nat) : Int32 := match d with | none => -2 | some d => nI d
theorem skS_2 {c : Nat} : skS c = 114 ↔ c = 2 := skS_ne.2.1

theorem zb_1 (b : Bool) : zb b = nI 1 ↔ b = true := by cases b <;> decide
theorem zb_0' (b : Bool) : zb b = nI 0 ↔ b = false := by cases b <;> decide

theorem c_X1_dangerOf {E : zE} {σ : zT} {kr kl : Nat} {V : zV} {ρ : Nat → Nat} {c m : Nat} (hW : WIs σ kr kl V ρ) (hc : c < vC V) (hm : m < vN V) : CalM E 2 yX1_dangerOf cX1_dangerOf 8 (some .int) [.ref (zA E 5 0), .ref (zA E kr 0), .ref (zA E kl 0), .int (nI c), .int (nI m)] σ (fun r σ' => r = some (.int (dI (dng V ρ c m))) ∧ WIs σ' kr kl V ρ ∧ FrG [kr] σ σ') := by
  refine cal_of_go (own := RX1) rfl (by decide +kernel) (Nat.le_of_ble_eq_true rfl) ?_
  have hW0 := hW
  have h0 := hW.1.1
  have h1 := hW.1.2
  obtain ⟨-, ⟨xs, hx0, hR⟩, hB, hS, hL⟩ := hW0
  have hxs : vR V = rsk xs := by unfold vR; rw [hx0]
  have hn := hL.b
  have hno := zR_no h0 h1
  have hok := hL.1
  have hkd := (hB.2.2 c hc).2.2.1
  have hld := (hB.2.2 c hc).2.2.2.2
  have hwk := hL.1.2.2.2.2.2.2.1
  refine go_aload_n (i := 0) (pc := 0) dX1_dangerOf_0 rfl rfl ?_
  refine go_getr2 fl_X1_15 (pc := 1) dX1_dangerOf_1 (by first | rfl | (apply zL_ci <;> assumption) | (apply zR_ci <;> assumption)) (by first | rfl | (apply zL_in <;> first | assumption | decide) | (apply zR_in <;> first | assumption | decide)) (by first | rfl | (apply zL_fr0 <;> assumption) | (apply zL_fr1 <;> assumption) | (apply zR_fr0 <;> assumption) | (apply zR_fr1 <;> assumption) | (apply zR_fr2 <;> assumption) | (apply zR_fr3 <;> assumption)) ?_
  refine go_iload_n (i := 3) (pc := 4) dX1_dangerOf_4 rfl rfl ?_
  refine go_callV ml_X1_23 mt_X0_kindOf (pc := 5) dX1_dangerOf_5 (c_X0_kindOf hB hc) (by first | rfl | (apply zL_cq <;> assumption) | (apply zR_cq <;> assumption)) rfl (by first | rfl | (apply zL_in <;> first | assumption | decide) | (apply zR_in <;> first | assumption | decide)) (by decide) (by decide) rfl rfl (Nat.le_of_ble_eq_true rfl) (fun r σ' hp => ?_)
  obtain ⟨rfl, hσ⟩ := hp
  rw [hσ]
  clear hσ σ'
  dsimp only [zRet]
  refine go_istore (pc := 8) dX1_dangerOf_8 (by decide) ?_
  refine go_iload (pc := 10) dX1_dangerOf_10 rfl ?_
  refine go_iconst (nI 4) (pc := 12) dX1_dangerOf_12 (by decide) ?_
  refine go_icmp_ne 23 (pc := 13) dX1_dangerOf_13 (by decide) (fun h13 => ?_) (fun h13 => ?_)
  · first | rw [nI_eq (by omega) (by omega)] at h13 | rw [zi_eqN (by omega)] at h13 | rw [zi_Neq (by omega)] at h13 | rw [zi_eq] at h13
    refine go_aload_n (i := 2) (pc := 23) dX1_dangerOf_23 rfl rfl ?_
    refine go_iload (pc := 24) dX1_dangerOf_24 rfl ?_
    refine go_callV ml_X1_35 mt_X2_hasGate (pc := 26) dX1_dangerOf_26 (c_X2_hasGate h1 hL hm) (by first | rfl | (apply zL_cq <;> assumption) | (apply zR_cq <;> assumption)) rfl (by first | rfl | (apply zL_in <;> first | assumption | decide) | (apply zR_in <;> first | assumption | decide)) (by decide) (by decide) rfl rfl (Nat.le_of_ble_eq_true rfl) (fun r σ' hp => ?_)
    obtain ⟨rfl, hσ⟩ := hp
    rw [hσ]
    clear hσ σ'
    dsimp only [zRet]
    refine go_iload (pc := 29) dX1_dangerOf_29 rfl ?_
    refine go_iconst (nI 3) (pc := 31) dX1_dangerOf_31 (by decide) ?_
    refine go_icmp_ne 39 (pc := 32) dX1_dangerOf_32 (by decide) (fun h32 => ?_) (fun h32 => ?_)
    · first | rw [nI_eq (by omega) (by omega)] at h32 | rw [zi_eqN (by omega)] at h32 | rw [zi_Neq (by omega)] at h32 | rw [zi_eq] at h32
      refine go_iconst (nI 0) (pc := 39) dX1_dangerOf_39 (by decide) ?_
      refine go_icmp_eq 46 (pc := 40) dX1_dangerOf_40 (by decide) (fun h40 => ?_) (fun h40 => ?_)
      · simp only [zb_1, zb_0'] at h40
        refine go_aload_n (i := 2) (pc := 46) dX1_dangerOf_46 rfl rfl ?_
        refine go_iload (pc := 47) dX1_dangerOf_47 rfl ?_
        refine go_callV ml_X1_39 mt_X2_hedgeAt (pc := 49) dX1_dangerOf_49 (c_X2_hedgeAt h1 hL hm) (by first | rfl | (apply zL_cq <;> assumption) | (apply zR_cq <;> assumption)) rfl (by first | rfl | (apply zL_in <;> first | assumption | decide) | (apply zR_in <;> first | assumption | decide)) (by decide) (by decide) rfl rfl (Nat.le_of_ble_eq_true rfl) (fun r σ' hp => ?_)
        obtain ⟨rfl, hσ⟩ := hp
        rw [hσ]
        clear hσ σ'
        dsimp only [zRet]
        refine go_istore (pc := 52) dX1_dangerOf_52 (by decide) ?_
        refine go_iload (pc := 54) dX1_dangerOf_54 rfl ?_
        refine go_iconst (nI 1) (pc := 56) dX1_dangerOf_56 (by decide) ?_
        refine go_icmp_ne 69 (pc := 57) dX1_dangerOf_57 (by decide) (fun h57 => ?_) (fun h57 => ?_)
        · first | rw [nI_eq (by omega) (by omega)] at h57 | rw [zi_eqN (by omega)] at h57 | rw [zi_Neq (by omega)] at h57 | rw [zi_eq] at h57
          refine go_iload (pc := 69) dX1_dangerOf_69 rfl ?_
          refine go_iconst (nI 2) (pc := 71) dX1_dangerOf_71 (by decide) ?_
          refine go_icmp_ne 97 (pc := 72) dX1_dangerOf_72 (by decide) (fun h72 => ?_) (fun h72 => ?_)
          · first | rw [nI_eq (by omega) (by omega)] at h72 | rw [zi_eqN (by omega)] at h72 | rw [zi_Neq (by omega)] at h72 | rw [zi_eq] at h72
            refine go_aload_n (i := 1) (pc := 97) dX1_dangerOf_97 rfl rfl ?_
            refine go_iload (pc := 98) dX1_dangerOf_98 rfl ?_
            refine go_aload_n (i := 2) (pc := 100) dX1_dangerOf_100 rfl rfl ?_
            refine go_iload (pc := 101) dX1_dangerOf_101 rfl ?_
            refine go_callV ml_X1_50 mt_X2_menAt (pc := 103) dX1_dangerOf_103 (c_X2_menAt h1 hL hm) (by first | rfl | (apply zL_cq <;> assumption) | (apply zR_cq <;> assumption)) rfl (by first | rfl | (apply zL_in <;> first | assumption | decide) | (apply zR_in <;> first | assumption | decide)) (by decide) (by decide) rfl rfl (Nat.le_of_ble_eq_true rfl) (fun r σ' hp => ?_)
            obtain ⟨rfl, hσ⟩ := hp
            rw [hσ]
            clear hσ σ'
            dsimp only [zRet]
            refine go_aload_n (i := 0) (pc := 106) dX1_dangerOf_106 rfl rfl ?_
            refine go_getr2 fl_X1_15 (pc := 107) dX1_dangerOf_107 (by first | rfl | (apply zL_ci <;> assumption) | (apply zR_ci <;> assumption)) (by first | rfl | (apply zL_in <;> first | assumption | decide) | (apply zR_in <;> first | assumption | decide)) (by first | rfl | (apply zL_fr0 <;> assumption) | (apply zL_fr1 <;> assumption) | (apply zR_fr0 <;> assumption) | (apply zR_fr1 <;> assumption) | (apply zR_fr2 <;> assumption) | (apply zR_fr3 <;> assumption)) ?_
            refine go_iload_n (i := 3) (pc := 110) dX1_dangerOf_110 rfl rfl ?_
            refine go_callV ml_X1_53 mt_X0_loadOf (pc := 111) dX1_dangerOf_111 (c_X0_loadOf hB hc) (by first | rfl | (apply zL_cq <;> assumption) | (apply zR_cq <;> assumption)) rfl (by first | rfl | (apply zL_in <;> first | assumption | decide) | (apply zR_in <;> first | assumption | decide)) (by decide) (by decide) rfl rfl (Nat.le_of_ble_eq_true rfl) (fun r σ' hp => ?_)
            obtain ⟨rfl, hσ⟩ := hp
            rw [hσ]
            clear hσ σ'
            dsimp only [zRet]
            refine go_aload_n (i := 2) (pc := 114) dX1_dangerOf_114 rfl rfl ?_
            refine go_callV ml_X1_42 mt_X2_week (pc := 115) dX1_dangerOf_115 (c_X2_week h1 hL) (by first | rfl | (apply zL_cq <;> assumption) | (apply zR_cq <;> assumption)) rfl (by first | rfl | (apply zL_in <;> first | assumption | decide) | (apply zR_in <;> first | assumption | decide)) (by decide) (by decide) rfl rfl (Nat.le_of_ble_eq_true rfl) (fun r σ' hp => ?_)
            obtain ⟨rfl, hσ⟩ := hp
            rw [hσ]
            clear hσ σ'
            dsimp only [zRet]
            refine go_aload_n (i := 2) (pc := 118) dX1_dangerOf_118 rfl rfl ?_
            refine go_iload (pc := 119) dX1_dangerOf_119 rfl ?_
            refine go_callV ml_X1_56 mt_X2_mannedBeside (pc := 121) dX1_dangerOf_121 (c_X2_mannedBeside h1 hL hm) (by first | rfl | (apply zL_cq <;> assumption) | (apply zR_cq <;> assumption)) rfl (by first | rfl | (apply zL_in <;> first | assumption | decide) | (apply zR_in <;> first | assumption | decide)) (by decide) (by decide) rfl rfl (Nat.le_of_ble_eq_true rfl) (fun r σ' hp => ?_)
            obtain ⟨rfl, hσ⟩ := hp
            rw [hσ]
            clear hσ σ'
            dsimp only [zRet]
            refine go_callV ml_X1_59 mt_X4_risk (pc := 124) dX1_dangerOf_124 (c_X4_risk h0 hR (by omega)) (by first | rfl | (apply zL_cq <;> assumption) | (apply zR_cq <;> assumption)) rfl (by first | rfl | (apply zL_in <;> first | assumption | decide) | (apply zR_in <;> first | assumption | decide)) (by decide) (by decide) rfl rfl (Nat.le_of_ble_eq_true rfl) (fun r σ' hp => ?_)
            obtain ⟨rfl, hR2, hf⟩ := hp
            dsimp only [zRet]
            have hW2 : WIs σ' kr kl V ρ := ⟨hW.1, ⟨xs, hx0, hR2⟩, hB.fr hf (by simp; omega), hS.fr hf (by simp; omega), hL.fr hf (by simp; omega)⟩
            refine go_istore (pc := 127) dX1_dangerOf_127 (by decide) ?_
            refine go_iload (pc := 129) dX1_dangerOf_129 rfl ?_
            refine go_iconst (nI 3) (pc := 131) dX1_dangerOf_131 (by decide) ?_
            refine go_icmp_ne 142 (pc := 132) dX1_dangerOf_132 (by decide) (fun h132 => ?_) (fun h132 => ?_)
            · first | rw [nI_eq (by omega) (by omega)] at h132 | rw [zi_eqN (by omega)] at h132 | rw [zi_Neq (by omega)] at h132 | rw [zi_eq] at h132
              refine go_iload (pc := 142) dX1_dangerOf_142 rfl ?_
              refine go_ireturn (pc := 144) dX1_dangerOf_144 rfl ?_
              refine ⟨?_, hW2, hf⟩
              unfold dng
              rw [if_neg (by omega), if_neg (by simp_all), if_neg (by omega)]
              simp_all [dI]
            · first | rw [nI_eq (by omega) (by omega)] at h132 | rw [zi_eqN (by omega)] at h132 | rw [zi_Neq (by omega)] at h132 | rw [zi_eq] at h132
              refine go_iload (pc := 135) dX1_dangerOf_135 rfl ?_
              refine go_iconst (nI 2) (pc := 137) dX1_dangerOf_137 (by decide) ?_
              refine go_idiv (pc := 138) dX1_dangerOf_138 (by decide) ?_
              rw [pk_div (Nat.lt_of_le_of_lt (rsk_le _ _ _ _ _ _) (by decide)) (by decide) (by decide)]
              refine go_goto 144 (pc := 139) dX1_dangerOf_139 (by decide) ?_
              refine go_ireturn (pc := 144) dX1_dangerOf_144 rfl ?_
              refine ⟨?_, hW2, hf⟩
              unfold dng
              rw [if_neg (by omega), if_neg (by simp_all), if_neg (by omega)]
              simp_all [dI]
          · first | rw [nI_eq (by omega) (by omega)] at h72 | rw [zi_eqN (by omega)] at h72 | rw [zi_Neq (by omega)] at h72 | rw [zi_eq] at h72
            refine go_aload_n (i := 0) (pc := 75) dX1_dangerOf_75 rfl rfl ?_
            refine go_getr2 fl_X1_19 (pc := 76) dX1_dangerOf_76 (by first | rfl | (apply zL_ci <;> assumption) | (apply zR_ci <;> assumption)) (by first | rfl | (apply zL_in <;> first | assumption | decide) | (apply zR_in <;> first | assumption | decide)) (by first | rfl | (apply zL_fr0 <;> assumption) | (apply zL_fr1 <;> assumption) | (apply zR_fr0 <;> assumption) | (apply zR_fr1 <;> assumption) | (apply zR_fr2 <;> assumption) | (apply zR_fr3 <;> assumption)) ?_
            refine go_aload_n (i := 2) (pc := 79) dX1_dangerOf_79 rfl rfl ?_
            refine go_callV ml_X1_42 mt_X2_week (pc := 80) dX1_dangerOf_80 (c_X2_week h1 hL) (by first | rfl | (apply zL_cq <;> assumption) | (apply zR_cq <;> assumption)) rfl (by first | rfl | (apply zL_in <;> first | assumption | decide) | (apply zR_in <;> first | assumption | decide)) (by decide) (by decide) rfl rfl (Nat.le_of_ble_eq_true rfl) (fun r σ' hp => ?_)
            obtain ⟨rfl, hσ⟩ := hp
            rw [hσ]
            clear hσ σ'
            dsimp only [zRet]
            refine go_callV ml_X1_45 mt_X7_of (pc := 83) dX1_dangerOf_83 (c_X7_of hS (by omega)) (by first | rfl | (apply zL_cq <;> assumption) | (apply zR_cq <;> assumption)) rfl (by first | rfl | (apply zL_in <;> first | assumption | decide) | (apply zR_in <;> first | assumption | decide)) (by decide) (by decide) rfl rfl (Nat.le_of_ble_eq_true rfl) (fun r σ' hp => ?_)
            obtain ⟨rfl, hσ⟩ := hp
            rw [hσ]
            clear hσ σ'
            dsimp only [zRet]
            have hsk := (skS_ne (c := vW V (ρ 27 % vS V))).2.2.2
            refine go_bipush (nI 114) (pc := 86) dX1_dangerOf_86 (by decide) ?_
            refine go_icmp_eq 94 (pc := 88) dX1_dangerOf_88 (by decide) (fun h88 => ?_) (fun h88 => ?_)
            · first | rw [nI_eq (by omega) (by omega)] at h88 | rw [zi_eqN (by omega)] at h88 | rw [zi_Neq (by omega)] at h88 | rw [zi_eq] at h88
              rw [skS_2] at h88
              refine go_iconst (nI 0) (pc := 94) dX1_dangerOf_94 (by decide) ?_
              refine go_istore (pc := 95) dX1_dangerOf_95 (by decide) ?_
              refine go_aload_n (i := 1) (pc := 97) dX1_dangerOf_97 rfl rfl ?_
              refine go_iload (pc := 98) dX1_dangerOf_98 rfl ?_
              refine go_aload_n (i := 2) (pc := 100) dX1_dangerOf_100 rfl rfl ?_
              refine go_iload (pc := 101) dX1_dangerOf_101 rfl ?_
              refine go_callV ml_X1_50 mt_X2_menAt (pc := 103) dX1_dangerOf_103 (c_X2_menAt h1 hL hm) (by first | rfl | (apply zL_cq <;> assumption) | (apply zR_cq <;> assumption)) rfl (by first | rfl | (apply zL_in <;> first | assumption | decide) | (apply zR_in <;> first | assumption | decide)) (by decide) (by decide) rfl rfl (Nat.le_of_ble_eq_true rfl) (fun r σ' hp => ?_)
              obtain ⟨rfl, hσ⟩ := hp
              rw [hσ]
              clear hσ σ'
              dsimp only [zRet]
              refine go_aload_n (i := 0) (pc := 106) dX1_dangerOf_106 rfl rfl ?_
              refine go_getr2 fl_X1_15 (pc := 107) dX1_dangerOf_107 (by first | rfl | (apply zL_ci <;> assumption) | (apply zR_ci <;> assumption)) (by first | rfl | (apply zL_in <;> first | assumption | decide) | (apply zR_in <;> first | assumption | decide)) (by first | rfl | (apply zL_fr0 <;> assumption) | (apply zL_fr1 <;> assumption) | (apply zR_fr0 <;> assumption) | (apply zR_fr1 <;> assumption) | (apply zR_fr2 <;> assumption) | (apply zR_fr3 <;> assumption)) ?_
              refine go_iload_n (i := 3) (pc := 110) dX1_dangerOf_110 rfl rfl ?_
              refine go_callV ml_X1_53 mt_X0_loadOf (pc := 111) dX1_dangerOf_111 (c_X0_loadOf hB hc) (by first | rfl | (apply zL_cq <;> assumption) | (apply zR_cq <;> assumption)) rfl (by first | rfl | (apply zL_in <;> first | assumption | decide) | (apply zR_in <;> first | assumption | decide)) (by decide) (by decide) rfl rfl (Nat.le_of_ble_eq_true rfl) (fun r σ' hp => ?_)
              obtain ⟨rfl, hσ⟩ := hp
              rw [hσ]
              clear hσ σ'
              dsimp only [zRet]
              refine go_aload_n (i := 2) (pc := 114) dX1_dangerOf_114 rfl rfl ?_
              refine go_callV ml_X1_42 mt_X2_week (pc := 115) dX1_dangerOf_115 (c_X2_week h1 hL) (by first | rfl | (apply zL_cq <;> assumption) | (apply zR_cq <;> assumption)) rfl (by first | rfl | (apply zL_in <;> first | assumption | decide) | (apply zR_in <;> first | assumption | decide)) (by decide) (by decide) rfl rfl (Nat.le_of_ble_eq_true rfl) (fun r σ' hp => ?_)
              obtain ⟨rfl, hσ⟩ := hp
              rw [hσ]
              clear hσ σ'
              dsimp only [zRet]
              refine go_aload_n (i := 2) (pc := 118) dX1_dangerOf_118 rfl rfl ?_
              refine go_iload (pc := 119) dX1_dangerOf_119 rfl ?_
              refine go_callV ml_X1_56 mt_X2_mannedBeside (pc := 121) dX1_dangerOf_121 (c_X2_mannedBeside h1 hL hm) (by first | rfl | (apply zL_cq <;> assumption) | (apply zR_cq <;> assumption)) rfl (by first | rfl | (apply zL_in <;> first | assumption | decide) | (apply zR_in <;> first | assumption | decide)) (by decide) (by decide) rfl rfl (Nat.le_of_ble_eq_true rfl) (fun r σ' hp => ?_)
              obtain ⟨rfl, hσ⟩ := hp
              rw [hσ]
              clear hσ σ'
              dsimp only [zRet]
              refine go_callV ml_X1_59 mt_X4_risk (pc := 124) dX1_dangerOf_124 (c_X4_risk h0 hR (by omega)) (by first | rfl | (apply zL_cq <;> assumption) | (apply zR_cq <;> assumption)) rfl (by first | rfl | (apply zL_in <;> first | assumption | decide) | (apply zR_in <;> first | assumption | decide)) (by decide) (by decide) rfl rfl (Nat.le_of_ble_eq_true rfl) (fun r σ' hp => ?_)
              obtain ⟨rfl, hR2, hf⟩ := hp
              dsimp only [zRet]
              have hW2 : WIs σ' kr kl V ρ := ⟨hW.1, ⟨xs, hx0, hR2⟩, hB.fr hf (by simp; omega), hS.fr hf (by simp; omega), hL.fr hf (by simp; omega)⟩
              refine go_istore (pc := 127) dX1_dangerOf_127 (by decide) ?_
              refine go_iload (pc := 129) dX1_dangerOf_129 rfl ?_
              refine go_iconst (nI 3) (pc := 131) dX1_dangerOf_131 (by decide) ?_
              refine go_icmp_ne 142 (pc := 132) dX1_dangerOf_132 (by decide) (fun h132 => ?_) (fun h132 => ?_)
              · first | rw [nI_eq (by omega) (by omega)] at h132 | rw [zi_eqN (by omega)] at h132 | rw [zi_Neq (by omega)] at h132 | rw [zi_eq] at h132
                refine go_iload (pc := 142) dX1_dangerOf_142 rfl ?_
                refine go_ireturn (pc := 144) dX1_dangerOf_144 rfl ?_
                refine ⟨?_, hW2, hf⟩
                unfold dng
                rw [if_neg (by omega), if_neg (by simp_all), if_neg (by omega)]
                simp_all [dI]
              · first | rw [nI_eq (by omega) (by omega)] at h132 | rw [zi_eqN (by omega)] at h132 | rw [zi_Neq (by omega)] at h132 | rw [zi_eq] at h132
                refine go_iload (pc := 135) dX1_dangerOf_135 rfl ?_
                refine go_iconst (nI 2) (pc := 137) dX1_dangerOf_137 (by decide) ?_
                refine go_idiv (pc := 138) dX1_dangerOf_138 (by decide) ?_
                rw [pk_div (Nat.lt_of_le_of_lt (rsk_le _ _ _ _ _ _) (by decide)) (by decide) (by decide)]
                refine go_goto 144 (pc := 139) dX1_dangerOf_139 (by decide) ?_
                refine go_ireturn (pc := 144) dX1_dangerOf_144 rfl ?_
                refine ⟨?_, hW2, hf⟩
                unfold dng
                rw [if_neg (by omega), if_neg (by simp_all), if_neg (by omega)]
                simp_all [dI]
            · first | rw [nI_eq (by omega) (by omega)] at h88 | rw [zi_eqN (by omega)] at h88 | rw [zi_Neq (by omega)] at h88 | rw [zi_eq] at h88
              rw [skS_2] at h88
              refine go_bipush (-2) (pc := 91) dX1_dangerOf_91 (by decide) ?_
              refine go_ireturn (pc := 93) dX1_dangerOf_93 rfl ?_
              refine ⟨?_, hW, FrG.rf⟩
              unfold dng
              rw [if_neg (by omega), if_neg (by simp_all), if_pos (by omega)]
              rfl
        · first | rw [nI_eq (by omega) (by omega)] at h57 | rw [zi_eqN (by omega)] at h57 | rw [zi_Neq (by omega)] at h57 | rw [zi_eq] at h57
          refine go_iload (pc := 60) dX1_dangerOf_60 rfl ?_
          refine go_iconst (nI 2) (pc := 62) dX1_dangerOf_62 (by decide) ?_
          refine go_idiv (pc := 63) dX1_dangerOf_63 (by decide) ?_
          rw [pk_div (by have := hok.2.2.1 m (by omega); omega) (by decide) (by decide)]
          refine go_istore (pc := 64) dX1_dangerOf_64 (by decide) ?_
          refine go_goto 97 (pc := 66) dX1_dangerOf_66 (by decide) ?_
          refine go_aload_n (i := 1) (pc := 97) dX1_dangerOf_97 rfl rfl ?_
          refine go_iload (pc := 98) dX1_dangerOf_98 rfl ?_
          refine go_aload_n (i := 2) (pc := 100) dX1_dangerOf_100 rfl rfl ?_
          refine go_iload (pc := 101) dX1_dangerOf_101 rfl ?_
          refine go_callV ml_X1_50 mt_X2_menAt (pc := 103) dX1_dangerOf_103 (c_X2_menAt h1 hL hm) (by first | rfl | (apply zL_cq <;> assumption) | (apply zR_cq <;> assumption)) rfl (by first | rfl | (apply zL_in <;> first | assumption | decide) | (apply zR_in <;> first | assumption | decide)) (by decide) (by decide) rfl rfl (Nat.le_of_ble_eq_true rfl) (fun r σ' hp => ?_)
          obtain ⟨rfl, hσ⟩ := hp
          rw [hσ]
          clear hσ σ'
          dsimp only [zRet]
          refine go_aload_n (i := 0) (pc := 106) dX1_dangerOf_106 rfl rfl ?_
          refine go_getr2 fl_X1_15 (pc := 107) dX1_dangerOf_107 (by first | rfl | (apply zL_ci <;> assumption) | (apply zR_ci <;> assumption)) (by first | rfl | (apply zL_in <;> first | assumption | decide) | (apply zR_in <;> first | assumption | decide)) (by first | rfl | (apply zL_fr0 <;> assumption) | (apply zL_fr1 <;> assumption) | (apply zR_fr0 <;> assumption) | (apply zR_fr1 <;> assumption) | (apply zR_fr2 <;> assumption) | (apply zR_fr3 <;> assumption)) ?_
          refine go_iload_n (i := 3) (pc := 110) dX1_dangerOf_110 rfl rfl ?_
          refine go_callV ml_X1_53 mt_X0_loadOf (pc := 111) dX1_dangerOf_111 (c_X0_loadOf hB hc) (by first | rfl | (apply zL_cq <;> assumption) | (apply zR_cq <;> assumption)) rfl (by first | rfl | (apply zL_in <;> first | assumption | decide) | (apply zR_in <;> first | assumption | decide)) (by decide) (by decide) rfl rfl (Nat.le_of_ble_eq_true rfl) (fun r σ' hp => ?_)
          obtain ⟨rfl, hσ⟩ := hp
          rw [hσ]
          clear hσ σ'
          dsimp only [zRet]
          refine go_aload_n (i := 2) (pc := 114) dX1_dangerOf_114 rfl rfl ?_
          refine go_callV ml_X1_42 mt_X2_week (pc := 115) dX1_dangerOf_115 (c_X2_week h1 hL) (by first | rfl | (apply zL_cq <;> assumption) | (apply zR_cq <;> assumption)) rfl (by first | rfl | (apply zL_in <;> first | assumption | decide) | (apply zR_in <;> first | assumption | decide)) (by decide) (by decide) rfl rfl (Nat.le_of_ble_eq_true rfl) (fun r σ' hp => ?_)
          obtain ⟨rfl, hσ⟩ := hp
          rw [hσ]
          clear hσ σ'
          dsimp only [zRet]
          refine go_aload_n (i := 2) (pc := 118) dX1_dangerOf_118 rfl rfl ?_
          refine go_iload (pc := 119) dX1_dangerOf_119 rfl ?_
          refine go_callV ml_X1_56 mt_X2_mannedBeside (pc := 121) dX1_dangerOf_121 (c_X2_mannedBeside h1 hL hm) (by first | rfl | (apply zL_cq <;> assumption) | (apply zR_cq <;> assumption)) rfl (by first | rfl | (apply zL_in <;> first | assumption | decide) | (apply zR_in <;> first | assumption | decide)) (by decide) (by decide) rfl rfl (Nat.le_of_ble_eq_true rfl) (fun r σ' hp => ?_)
          obtain ⟨rfl, hσ⟩ := hp
          rw [hσ]
          clear hσ σ'
          dsimp only [zRet]
          refine go_callV ml_X1_59 mt_X4_risk (pc := 124) dX1_dangerOf_124 (c_X4_risk h0 hR (by omega)) (by first | rfl | (apply zL_cq <;> assumption) | (apply zR_cq <;> assumption)) rfl (by first | rfl | (apply zL_in <;> first | assumption | decide) | (apply zR_in <;> first | assumption | decide)) (by decide) (by decide) rfl rfl (Nat.le_of_ble_eq_true rfl) (fun r σ' hp => ?_)
          obtain ⟨rfl, hR2, hf⟩ := hp
          dsimp only [zRet]
          have hW2 : WIs σ' kr kl V ρ := ⟨hW.1, ⟨xs, hx0, hR2⟩, hB.fr hf (by simp; omega), hS.fr hf (by simp; omega), hL.fr hf (by simp; omega)⟩
          refine go_istore (pc := 127) dX1_dangerOf_127 (by decide) ?_
          refine go_iload (pc := 129) dX1_dangerOf_129 rfl ?_
          refine go_iconst (nI 3) (pc := 131) dX1_dangerOf_131 (by decide) ?_
          refine go_icmp_ne 142 (pc := 132) dX1_dangerOf_132 (by decide) (fun h132 => ?_) (fun h132 => ?_)
          · first | rw [nI_eq (by omega) (by omega)] at h132 | rw [zi_eqN (by omega)] at h132 | rw [zi_Neq (by omega)] at h132 | rw [zi_eq] at h132
            refine go_iload (pc := 142) dX1_dangerOf_142 rfl ?_
            refine go_ireturn (pc := 144) dX1_dangerOf_144 rfl ?_
            refine ⟨?_, hW2, hf⟩
            unfold dng
            rw [if_neg (by omega), if_neg (by simp_all), if_neg (by omega)]
            simp_all [dI]
          · first | rw [nI_eq (by omega) (by omega)] at h132 | rw [zi_eqN (by omega)] at h132 | rw [zi_Neq (by omega)] at h132 | rw [zi_eq] at h132
            refine go_iload (pc := 135) dX1_dangerOf_135 rfl ?_
            refine go_iconst (nI 2) (pc := 137) dX1_dangerOf_137 (by decide) ?_
            refine go_idiv (pc := 138) dX1_dangerOf_138 (by decide) ?_
            rw [pk_div (Nat.lt_of_le_of_lt (rsk_le _ _ _ _ _ _) (by decide)) (by decide) (by decide)]
            refine go_goto 144 (pc := 139) dX1_dangerOf_139 (by decide) ?_
            refine go_ireturn (pc := 144) dX1_dangerOf_144 rfl ?_
            refine ⟨?_, hW2, hf⟩
            unfold dng
            rw [if_neg (by omega), if_neg (by simp_all), if_neg (by omega)]
            simp_all [dI]
      · simp only [zb_1, zb_0'] at h40
        refine go_bipush (-2) (pc := 43) dX1_dangerOf_43 (by decide) ?_
        refine go_ireturn (pc := 45) dX1_dangerOf_45 rfl ?_
        refine ⟨?_, hW, FrG.rf⟩
        unfold dng
        rw [if_neg (by omega), if_pos (by simp_all)]
        rfl
    · first | rw [nI_eq (by omega) (by omega)] at h32 | rw [zi_eqN (by omega)] at h32 | rw [zi_Neq (by omega)] at h32 | rw [zi_eq] at h32
      refine go_iconst (nI 1) (pc := 35) dX1_dangerOf_35 (by decide) ?_
      refine go_goto 40 (pc := 36) dX1_dangerOf_36 (by decide) ?_
      refine go_icmp_eq 46 (pc := 40) dX1_dangerOf_40 (by decide) (fun h40 => ?_) (fun h40 => ?_)
      · simp only [zb_1, zb_0'] at h40
        refine go_aload_n (i := 2) (pc := 46) dX1_dangerOf_46 rfl rfl ?_
        refine go_iload (pc := 47) dX1_dangerOf_47 rfl ?_
        refine go_callV ml_X1_39 mt_X2_hedgeAt (pc := 49) dX1_dangerOf_49 (c_X2_hedgeAt h1 hL hm) (by first | rfl | (apply zL_cq <;> assumption) | (apply zR_cq <;> assumption)) rfl (by first | rfl | (apply zL_in <;> first | assumption | decide) | (apply zR_in <;> first | assumption | decide)) (by decide) (by decide) rfl rfl (Nat.le_of_ble_eq_true rfl) (fun r σ' hp => ?_)
        obtain ⟨rfl, hσ⟩ := hp
        rw [hσ]
        clear hσ σ'
        dsimp only [zRet]
        refine go_istore (pc := 52) dX1_dangerOf_52 (by decide) ?_
        refine go_iload (pc := 54) dX1_dangerOf_54 rfl ?_
        refine go_iconst (nI 1) (pc := 56) dX1_dangerOf_56 (by decide) ?_
        refine go_icmp_ne 69 (pc := 57) dX1_dangerOf_57 (by decide) (fun h57 => ?_) (fun h57 => ?_)
        · first | rw [nI_eq (by omega) (by omega)] at h57 | rw [zi_eqN (by omega)] at h57 | rw [zi_Neq (by omega)] at h57 | rw [zi_eq] at h57
          refine go_iload (pc := 69) dX1_dangerOf_69 rfl ?_
          refine go_iconst (nI 2) (pc := 71) dX1_dangerOf_71 (by decide) ?_
          refine go_icmp_ne 97 (pc := 72) dX1_dangerOf_72 (by decide) (fun h72 => ?_) (fun h72 => ?_)
          · first | rw [nI_eq (by omega) (by omega)] at h72 | rw [zi_eqN (by omega)] at h72 | rw [zi_Neq (by omega)] at h72 | rw [zi_eq] at h72
            refine go_aload_n (i := 1) (pc := 97) dX1_dangerOf_97 rfl rfl ?_
            refine go_iload (pc := 98) dX1_dangerOf_98 rfl ?_
            refine go_aload_n (i := 2) (pc := 100) dX1_dangerOf_100 rfl rfl ?_
            refine go_iload (pc := 101) dX1_dangerOf_101 rfl ?_
            refine go_callV ml_X1_50 mt_X2_menAt (pc := 103) dX1_dangerOf_103 (c_X2_menAt h1 hL hm) (by first | rfl | (apply zL_cq <;> assumption) | (apply zR_cq <;> assumption)) rfl (by first | rfl | (apply zL_in <;> first | assumption | decide) | (apply zR_in <;> first | assumption | decide)) (by decide) (by decide) rfl rfl (Nat.le_of_ble_eq_true rfl) (fun r σ' hp => ?_)
            obtain ⟨rfl, hσ⟩ := hp
            rw [hσ]
            clear hσ σ'
            dsimp only [zRet]
            refine go_aload_n (i := 0) (pc := 106) dX1_dangerOf_106 rfl rfl ?_
            refine go_getr2 fl_X1_15 (pc := 107) dX1_dangerOf_107 (by first | rfl | (apply zL_ci <;> assumption) | (apply zR_ci <;> assumption)) (by first | rfl | (apply zL_in <;> first | assumption | decide) | (apply zR_in <;> first | assumption | decide)) (by first | rfl | (apply zL_fr0 <;> assumption) | (apply zL_fr1 <;> assumption) | (apply zR_fr0 <;> assumption) | (apply zR_fr1 <;> assumption) | (apply zR_fr2 <;> assumption) | (apply zR_fr3 <;> assumption)) ?_
            refine go_iload_n (i := 3) (pc := 110) dX1_dangerOf_110 rfl rfl ?_
            refine go_callV ml_X1_53 mt_X0_loadOf (pc := 111) dX1_dangerOf_111 (c_X0_loadOf hB hc) (by first | rfl | (apply zL_cq <;> assumption) | (apply zR_cq <;> assumption)) rfl (by first | rfl | (apply zL_in <;> first | assumption | decide) | (apply zR_in <;> first | assumption | decide)) (by decide) (by decide) rfl rfl (Nat.le_of_ble_eq_true rfl) (fun r σ' hp => ?_)
            obtain ⟨rfl, hσ⟩ := hp
            rw [hσ]
            clear hσ σ'
            dsimp only [zRet]
            refine go_aload_n (i := 2) (pc := 114) dX1_dangerOf_114 rfl rfl ?_
            refine go_callV ml_X1_42 mt_X2_week (pc := 115) dX1_dangerOf_115 (c_X2_week h1 hL) (by first | rfl | (apply zL_cq <;> assumption) | (apply zR_cq <;> assumption)) rfl (by first | rfl | (apply zL_in <;> first | assumption | decide) | (apply zR_in <;> first | assumption | decide)) (by decide) (by decide) rfl rfl (Nat.le_of_ble_eq_true rfl) (fun r σ' hp => ?_)
            obtain ⟨rfl, hσ⟩ := hp
            rw [hσ]
            clear hσ σ'
            dsimp only [zRet]
            refine go_aload_n (i := 2) (pc := 118) dX1_dangerOf_118 rfl rfl ?_
            refine go_iload (pc := 119) dX1_dangerOf_119 rfl ?_
            refine go_callV ml_X1_56 mt_X2_mannedBeside (pc := 121) dX1_dangerOf_121 (c_X2_mannedBeside h1 hL hm) (by first | rfl | (apply zL_cq <;> assumption) | (apply zR_cq <;> assumption)) rfl (by first | rfl | (apply zL_in <;> first | assumption | decide) | (apply zR_in <;> first | assumption | decide)) (by decide) (by decide) rfl rfl (Nat.le_of_ble_eq_true rfl) (fun r σ' hp => ?_)
            obtain ⟨rfl, hσ⟩ := hp
            rw [hσ]
            clear hσ σ'
            dsimp only [zRet]
            refine go_callV ml_X1_59 mt_X4_risk (pc := 124) dX1_dangerOf_124 (c_X4_risk h0 hR (by omega)) (by first | rfl | (apply zL_cq <;> assumption) | (apply zR_cq <;> assumption)) rfl (by first | rfl | (apply zL_in <;> first | assumption | decide) | (apply zR_in <;> first | assumption | decide)) (by decide) (by decide) rfl rfl (Nat.le_of_ble_eq_true rfl) (fun r σ' hp => ?_)
            obtain ⟨rfl, hR2, hf⟩ := hp
            dsimp only [zRet]
            have hW2 : WIs σ' kr kl V ρ := ⟨hW.1, ⟨xs, hx0, hR2⟩, hB.fr hf (by simp; omega), hS.fr hf (by simp; omega), hL.fr hf (by simp; omega)⟩
            refine go_istore (pc := 127) dX1_dangerOf_127 (by decide) ?_
            refine go_iload (pc := 129) dX1_dangerOf_129 rfl ?_
            refine go_iconst (nI 3) (pc := 131) dX1_dangerOf_131 (by decide) ?_
            refine go_icmp_ne 142 (pc := 132) dX1_dangerOf_132 (by decide) (fun h132 => ?_) (fun h132 => ?_)
            · first | rw [nI_eq (by omega) (by omega)] at h132 | rw [zi_eqN (by omega)] at h132 | rw [zi_Neq (by omega)] at h132 | rw [zi_eq] at h132
              refine go_iload (pc := 142) dX1_dangerOf_142 rfl ?_
              refine go_ireturn (pc := 144) dX1_dangerOf_144 rfl ?_
              refine ⟨?_, hW2, hf⟩
              unfold dng
              rw [if_neg (by omega), if_neg (by simp_all), if_neg (by omega)]
              simp_all [dI]
            · first | rw [nI_eq (by omega) (by omega)] at h132 | rw [zi_eqN (by omega)] at h132 | rw [zi_Neq (by omega)] at h132 | rw [zi_eq] at h132
              refine go_iload (pc := 135) dX1_dangerOf_135 rfl ?_
              refine go_iconst (nI 2) (pc := 137) dX1_dangerOf_137 (by decide) ?_
              refine go_idiv (pc := 138) dX1_dangerOf_138 (by decide) ?_
              rw [pk_div (Nat.lt_of_le_of_lt (rsk_le _ _ _ _ _ _) (by decide)) (by decide) (by decide)]
              refine go_goto 144 (pc := 139) dX1_dangerOf_139 (by decide) ?_
              refine go_ireturn (pc := 144) dX1_dangerOf_144 rfl ?_
              refine ⟨?_, hW2, hf⟩
              unfold dng
              rw [if_neg (by omega), if_neg (by simp_all), if_neg (by omega)]
              simp_all [dI]
          · first | rw [nI_eq (by omega) (by omega)] at h72 | rw [zi_eqN (by omega)] at h72 | rw [zi_Neq (by omega)] at h72 | rw [zi_eq] at h72
            refine go_aload_n (i := 0) (pc := 75) dX1_dangerOf_75 rfl rfl ?_
            refine go_getr2 fl_X1_19 (pc := 76) dX1_dangerOf_76 (by first | rfl | (apply zL_ci <;> assumption) | (apply zR_ci <;> assumption)) (by first | rfl | (apply zL_in <;> first | assumption | decide) | (apply zR_in <;> first | assumption | decide)) (by first | rfl | (apply zL_fr0 <;> assumption) | (apply zL_fr1 <;> assumption) | (apply zR_fr0 <;> assumption) | (apply zR_fr1 <;> assumption) | (apply zR_fr2 <;> assumption) | (apply zR_fr3 <;> assumption)) ?_
            refine go_aload_n (i := 2) (pc := 79) dX1_dangerOf_79 rfl rfl ?_
            refine go_callV ml_X1_42 mt_X2_week (pc := 80) dX1_dangerOf_80 (c_X2_week h1 hL) (by first | rfl | (apply zL_cq <;> assumption) | (apply zR_cq <;> assumption)) rfl (by first | rfl | (apply zL_in <;> first | assumption | decide) | (apply zR_in <;> first | assumption | decide)) (by decide) (by decide) rfl rfl (Nat.le_of_ble_eq_true rfl) (fun r σ' hp => ?_)
            obtain ⟨rfl, hσ⟩ := hp
            rw [hσ]
            clear hσ σ'
            dsimp only [zRet]
            refine go_callV ml_X1_45 mt_X7_of (pc := 83) dX1_dangerOf_83 (c_X7_of hS (by omega)) (by first | rfl | (apply zL_cq <;> assumption) | (apply zR_cq <;> assumption)) rfl (by first | rfl | (apply zL_in <;> first | assumption | decide) | (apply zR_in <;> first | assumption | decide)) (by decide) (by decide) rfl rfl (Nat.le_of_ble_eq_true rfl) (fun r σ' hp => ?_)
            obtain ⟨rfl, hσ⟩ := hp
            rw [hσ]
            clear hσ σ'
            dsimp only [zRet]
            have hsk := (skS_ne (c := vW V (ρ 27 % vS V))).2.2.2
            refine go_bipush (nI 114) (pc := 86) dX1_dangerOf_86 (by decide) ?_
            refine go_icmp_eq 94 (pc := 88) dX1_dangerOf_88 (by decide) (fun h88 => ?_) (fun h88 => ?_)
            · first | rw [nI_eq (by omega) (by omega)] at h88 | rw [zi_eqN (by omega)] at h88 | rw [zi_Neq (by omega)] at h88 | rw [zi_eq] at h88
              rw [skS_2] at h88
              refine go_iconst (nI 0) (pc := 94) dX1_dangerOf_94 (by decide) ?_
              refine go_istore (pc := 95) dX1_dangerOf_95 (by decide) ?_
              refine go_aload_n (i := 1) (pc := 97) dX1_dangerOf_97 rfl rfl ?_
              refine go_iload (pc := 98) dX1_dangerOf_98 rfl ?_
              refine go_aload_n (i := 2) (pc := 100) dX1_dangerOf_100 rfl rfl ?_
              refine go_iload (pc := 101) dX1_dangerOf_101 rfl ?_
              refine go_callV ml_X1_50 mt_X2_menAt (pc := 103) dX1_dangerOf_103 (c_X2_menAt h1 hL hm) (by first | rfl | (apply zL_cq <;> assumption) | (apply zR_cq <;> assumption)) rfl (by first | rfl | (apply zL_in <;> first | assumption | decide) | (apply zR_in <;> first | assumption | decide)) (by decide) (by decide) rfl rfl (Nat.le_of_ble_eq_true rfl) (fun r σ' hp => ?_)
              obtain ⟨rfl, hσ⟩ := hp
              rw [hσ]
              clear hσ σ'
              dsimp only [zRet]
              refine go_aload_n (i := 0) (pc := 106) dX1_dangerOf_106 rfl rfl ?_
              refine go_getr2 fl_X1_15 (pc := 107) dX1_dangerOf_107 (by first | rfl | (apply zL_ci <;> assumption) | (apply zR_ci <;> assumption)) (by first | rfl | (apply zL_in <;> first | assumption | decide) | (apply zR_in <;> first | assumption | decide)) (by first | rfl | (apply zL_fr0 <;> assumption) | (apply zL_fr1 <;> assumption) | (apply zR_fr0 <;> assumption) | (apply zR_fr1 <;> assumption) | (apply zR_fr2 <;> assumption) | (apply zR_fr3 <;> assumption)) ?_
              refine go_iload_n (i := 3) (pc := 110) dX1_dangerOf_110 rfl rfl ?_
              refine go_callV ml_X1_53 mt_X0_loadOf (pc := 111) dX1_dangerOf_111 (c_X0_loadOf hB hc) (by first | rfl | (apply zL_cq <;> assumption) | (apply zR_cq <;> assumption)) rfl (by first | rfl | (apply zL_in <;> first | assumption | decide) | (apply zR_in <;> first | assumption | decide)) (by decide) (by decide) rfl rfl (Nat.le_of_ble_eq_true rfl) (fun r σ' hp => ?_)
              obtain ⟨rfl, hσ⟩ := hp
              rw [hσ]
              clear hσ σ'
              dsimp only [zRet]
              refine go_aload_n (i := 2) (pc := 114) dX1_dangerOf_114 rfl rfl ?_
              refine go_callV ml_X1_42 mt_X2_week (pc := 115) dX1_dangerOf_115 (c_X2_week h1 hL) (by first | rfl | (apply zL_cq <;> assumption) | (apply zR_cq <;> assumption)) rfl (by first | rfl | (apply zL_in <;> first | assumption | decide) | (apply zR_in <;> first | assumption | decide)) (by decide) (by decide) rfl rfl (Nat.le_of_ble_eq_true rfl) (fun r σ' hp => ?_)
              obtain ⟨rfl, hσ⟩ := hp
              rw [hσ]
              clear hσ σ'
              dsimp only [zRet]
              refine go_aload_n (i := 2) (pc := 118) dX1_dangerOf_118 rfl rfl ?_
              refine go_iload (pc := 119) dX1_dangerOf_119 rfl ?_
              refine go_callV ml_X1_56 mt_X2_mannedBeside (pc := 121) dX1_dangerOf_121 (c_X2_mannedBeside h1 hL hm) (by first | rfl | (apply zL_cq <;> assumption) | (apply zR_cq <;> assumption)) rfl (by first | rfl | (apply zL_in <;> first | assumption | decide) | (apply zR_in <;> first | assumption | decide)) (by decide) (by decide) rfl rfl (Nat.le_of_ble_eq_true rfl) (fun r σ' hp => ?_)
              obtain ⟨rfl, hσ⟩ := hp
              rw [hσ]
              clear hσ σ'
              dsimp only [zRet]
              refine go_callV ml_X1_59 mt_X4_risk (pc := 124) dX1_dangerOf_124 (c_X4_risk h0 hR (by omega)) (by first | rfl | (apply zL_cq <;> assumption) | (apply zR_cq <;> assumption)) rfl (by first | rfl | (apply zL_in <;> first | assumption | decide) | (apply zR_in <;> first | assumption | decide)) (by decide) (by decide) rfl rfl (Nat.le_of_ble_eq_true rfl) (fun r σ' hp => ?_)
              obtain ⟨rfl, hR2, hf⟩ := hp
              dsimp only [zRet]
              have hW2 : WIs σ' kr kl V ρ := ⟨hW.1, ⟨xs, hx0, hR2⟩, hB.fr hf (by simp; omega), hS.fr hf (by simp; omega), hL.fr hf (by simp; omega)⟩
              refine go_istore (pc := 127) dX1_dangerOf_127 (by decide) ?_
              refine go_iload (pc := 129) dX1_dangerOf_129 rfl ?_
              refine go_iconst (nI 3) (pc := 131) dX1_dangerOf_131 (by decide) ?_
              refine go_icmp_ne 142 (pc := 132) dX1_dangerOf_132 (by decide) (fun h132 => ?_) (fun h132 => ?_)
              · first | rw [nI_eq (by omega) (by omega)] at h132 | rw [zi_eqN (by omega)] at h132 | rw [zi_Neq (by omega)] at h132 | rw [zi_eq] at h132
                refine go_iload (pc := 142) dX1_dangerOf_142 rfl ?_
                refine go_ireturn (pc := 144) dX1_dangerOf_144 rfl ?_
                refine ⟨?_, hW2, hf⟩
                unfold dng
                rw [if_neg (by omega), if_neg (by simp_all), if_neg (by omega)]
                simp_all [dI]
              · first | rw [nI_eq (by omega) (by omega)] at h132 | rw [zi_eqN (by omega)] at h132 | rw [zi_Neq (by omega)] at h132 | rw [zi_eq] at h132
                refine go_iload (pc := 135) dX1_dangerOf_135 rfl ?_
                refine go_iconst (nI 2) (pc := 137) dX1_dangerOf_137 (by decide) ?_
                refine go_idiv (pc := 138) dX1_dangerOf_138 (by decide) ?_
                rw [pk_div (Nat.lt_of_le_of_lt (rsk_le _ _ _ _ _ _) (by decide)) (by decide) (by decide)]
                refine go_goto 144 (pc := 139) dX1_dangerOf_139 (by decide) ?_
                refine go_ireturn (pc := 144) dX1_dangerOf_144 rfl ?_
                refine ⟨?_, hW2, hf⟩
                unfold dng
                rw [if_neg (by omega), if_neg (by simp_all), if_neg (by omega)]
                simp_all [dI]
            · first | rw [nI_eq (by omega) (by omega)] at h88 | rw [zi_eqN (by omega)] at h88 | rw [zi_Neq (by omega)] at h88 | rw [zi_eq] at h88
              rw [skS_2] at h88
              refine go_bipush (-2) (pc := 91) dX1_dangerOf_91 (by decide) ?_
              refine go_ireturn (pc := 93) dX1_dangerOf_93 rfl ?_
              refine ⟨?_, hW, FrG.rf⟩
              unfold dng
              rw [if_neg (by omega), if_neg (by simp_all), if_pos (by omega)]
              rfl
        · first | rw [nI_eq (by omega) (by omega)] at h57 | rw [zi_eqN (by omega)] at h57 | rw [zi_Neq (by omega)] at h57 | rw [zi_eq] at h57
          refine go_iload (pc := 60) dX1_dangerOf_60 rfl ?_
          refine go_iconst (nI 2) (pc := 62) dX1_dangerOf_62 (by decide) ?_
          refine go_idiv (pc := 63) dX1_dangerOf_63 (by decide) ?_
          rw [pk_div (by have := hok.2.2.1 m (by omega); omega) (by decide) (by decide)]
          refine go_istore (pc := 64) dX1_dangerOf_64 (by decide) ?_
          refine go_goto 97 (pc := 66) dX1_dangerOf_66 (by decide) ?_
          refine go_aload_n (i := 1) (pc := 97) dX1_dangerOf_97 rfl rfl ?_
          refine go_iload (pc := 98) dX1_dangerOf_98 rfl ?_
          refine go_aload_n (i := 2) (pc := 100) dX1_dangerOf_100 rfl rfl ?_
          refine go_iload (pc := 101) dX1_dangerOf_101 rfl ?_
          refine go_callV ml_X1_50 mt_X2_menAt (pc := 103) dX1_dangerOf_103 (c_X2_menAt h1 hL hm) (by first | rfl | (apply zL_cq <;> assumption) | (apply zR_cq <;> assumption)) rfl (by first | rfl | (apply zL_in <;> first | assumption | decide) | (apply zR_in <;> first | assumption | decide)) (by decide) (by decide) rfl rfl (Nat.le_of_ble_eq_true rfl) (fun r σ' hp => ?_)
          obtain ⟨rfl, hσ⟩ := hp
          rw [hσ]
          clear hσ σ'
          dsimp only [zRet]
          refine go_aload_n (i := 0) (pc := 106) dX1_dangerOf_106 rfl rfl ?_
          refine go_getr2 fl_X1_15 (pc := 107) dX1_dangerOf_107 (by first | rfl | (apply zL_ci <;> assumption) | (apply zR_ci <;> assumption)) (by first | rfl | (apply zL_in <;> first | assumption | decide) | (apply zR_in <;> first | assumption | decide)) (by first | rfl | (apply zL_fr0 <;> assumption) | (apply zL_fr1 <;> assumption) | (apply zR_fr0 <;> assumption) | (apply zR_fr1 <;> assumption) | (apply zR_fr2 <;> assumption) | (apply zR_fr3 <;> assumption)) ?_
          refine go_iload_n (i := 3) (pc := 110) dX1_dangerOf_110 rfl rfl ?_
          refine go_callV ml_X1_53 mt_X0_loadOf (pc := 111) dX1_dangerOf_111 (c_X0_loadOf hB hc) (by first | rfl | (apply zL_cq <;> assumption) | (apply zR_cq <;> assumption)) rfl (by first | rfl | (apply zL_in <;> first | assumption | decide) | (apply zR_in <;> first | assumption | decide)) (by decide) (by decide) rfl rfl (Nat.le_of_ble_eq_true rfl) (fun r σ' hp => ?_)
          obtain ⟨rfl, hσ⟩ := hp
          rw [hσ]
          clear hσ σ'
          dsimp only [zRet]
          refine go_aload_n (i := 2) (pc := 114) dX1_dangerOf_114 rfl rfl ?_
          refine go_callV ml_X1_42 mt_X2_week (pc := 115) dX1_dangerOf_115 (c_X2_week h1 hL) (by first | rfl | (apply zL_cq <;> assumption) | (apply zR_cq <;> assumption)) rfl (by first | rfl | (apply zL_in <;> first | assumption | decide) | (apply zR_in <;> first | assumption | decide)) (by decide) (by decide) rfl rfl (Nat.le_of_ble_eq_true rfl) (fun r σ' hp => ?_)
          obtain ⟨rfl, hσ⟩ := hp
          rw [hσ]
          clear hσ σ'
          dsimp only [zRet]
          refine go_aload_n (i := 2) (pc := 118) dX1_dangerOf_118 rfl rfl ?_
          refine go_iload (pc := 119) dX1_dangerOf_119 rfl ?_
          refine go_callV ml_X1_56 mt_X2_mannedBeside (pc := 121) dX1_dangerOf_121 (c_X2_mannedBeside h1 hL hm) (by first | rfl | (apply zL_cq <;> assumption) | (apply zR_cq <;> assumption)) rfl (by first | rfl | (apply zL_in <;> first | assumption | decide) | (apply zR_in <;> first | assumption | decide)) (by decide) (by decide) rfl rfl (Nat.le_of_ble_eq_true rfl) (fun r σ' hp => ?_)
          obtain ⟨rfl, hσ⟩ := hp
          rw [hσ]
          clear hσ σ'
          dsimp only [zRet]
          refine go_callV ml_X1_59 mt_X4_risk (pc := 124) dX1_dangerOf_124 (c_X4_risk h0 hR (by omega)) (by first | rfl | (apply zL_cq <;> assumption) | (apply zR_cq <;> assumption)) rfl (by first | rfl | (apply zL_in <;> first | assumption | decide) | (apply zR_in <;> first | assumption | decide)) (by decide) (by decide) rfl rfl (Nat.le_of_ble_eq_true rfl) (fun r σ' hp => ?_)
          obtain ⟨rfl, hR2, hf⟩ := hp
          dsimp only [zRet]
          have hW2 : WIs σ' kr kl V ρ := ⟨hW.1, ⟨xs, hx0, hR2⟩, hB.fr hf (by simp; omega), hS.fr hf (by simp; omega), hL.fr hf (by simp; omega)⟩
          refine go_istore (pc := 127) dX1_dangerOf_127 (by decide) ?_
          refine go_iload (pc := 129) dX1_dangerOf_129 rfl ?_
          refine go_iconst (nI 3) (pc := 131) dX1_dangerOf_131 (by decide) ?_
          refine go_icmp_ne 142 (pc := 132) dX1_dangerOf_132 (by decide) (fun h132 => ?_) (fun h132 => ?_)
          · first | rw [nI_eq (by omega) (by omega)] at h132 | rw [zi_eqN (by omega)] at h132 | rw [zi_Neq (by omega)] at h132 | rw [zi_eq] at h132
            refine go_iload (pc := 142) dX1_dangerOf_142 rfl ?_
            refine go_ireturn (pc := 144) dX1_dangerOf_144 rfl ?_
            refine ⟨?_, hW2, hf⟩
            unfold dng
            rw [if_neg (by omega), if_neg (by simp_all), if_neg (by omega)]
            simp_all [dI]
          · first | rw [nI_eq (by omega) (by omega)] at h132 | rw [zi_eqN (by omega)] at h132 | rw [zi_Neq (by omega)] at h132 | rw [zi_eq] at h132
            refine go_iload (pc := 135) dX1_dangerOf_135 rfl ?_
            refine go_iconst (nI 2) (pc := 137) dX1_dangerOf_137 (by decide) ?_
            refine go_idiv (pc := 138) dX1_dangerOf_138 (by decide) ?_
            rw [pk_div (Nat.lt_of_le_of_lt (rsk_le _ _ _ _ _ _) (by decide)) (by decide) (by decide)]
            refine go_goto 144 (pc := 139) dX1_dangerOf_139 (by decide) ?_
            refine go_ireturn (pc := 144) dX1_dangerOf_144 rfl ?_
            refine ⟨?_, hW2, hf⟩
            unfold dng
            rw [if_neg (by omega), if_neg (by simp_all), if_neg (by omega)]
            simp_all [dI]
      · simp only [zb_1, zb_0'] at h40
        refine go_bipush (-2) (pc := 43) dX1_dangerOf_43 (by decide) ?_
        refine go_ireturn (pc := 45) dX1_dangerOf_45 rfl ?_
        refine ⟨?_, hW, FrG.rf⟩
        unfold dng
        rw [if_neg (by omega), if_pos (by simp_all)]
        rfl
  · first | rw [nI_eq (by omega) (by omega)] at h13 | rw [zi_eqN (by omega)] at h13 | rw [zi_Neq (by omega)] at h13 | rw [zi_eq] at h13
    refine go_iconst (nI 2) (pc := 16) dX1_dangerOf_16 (by decide) ?_
    refine go_aload_n (i := 2) (pc := 17) dX1_dangerOf_17 rfl rfl ?_
    refine go_callV ml_X1_29 mt_X2_allMen (pc := 18) dX1_dangerOf_18 (c_X2_allMen h1 hL) (by first | rfl | (apply zL_cq <;> assumption) | (apply zR_cq <;> assumption)) rfl (by first | rfl | (apply zL_in <;> first | assumption | decide) | (apply zR_in <;> first | assumption | decide)) (by decide) (by decide) rfl rfl (Nat.le_of_ble_eq_true rfl) (fun r σ' hp => ?_)
    obtain ⟨rfl, hσ⟩ := hp
    rw [hσ]
    clear hσ σ'
    dsimp only [zRet]
    refine go_imulN (pc := 21) dX1_dangerOf_21 ?_
    refine go_ireturn (pc := 22) dX1_dangerOf_22 rfl ?_
    refine ⟨?_, hW, FrG.rf⟩
    unfold dng
    rw [if_pos (by omega)]
    rfl

def eM (e : Option (Nat × Nat)) : Int32 := match e with | none => -1 | some q => nI q.1
def eD (e : Option (Nat × Nat)) : Int32 := match e with | none => -1 | some q => nI q.2
/-- group 5 but for some fields -/
def Fr5 (fs : List Nat) (σ σ' : zT) : Prop := (∀ f, f ∉ fs → σ'.1 5 f = σ.1 5 f) ∧ σ'.2.1 5 = σ.2.1 5
theorem Fr5.rf {fs : List Nat} {σ : zT} : Fr5 fs σ σ := ⟨fun _ _ => rfl, rfl⟩
theorem Fr5.tr {fs : List Nat} {a b c : zT} (h : Fr5 fs a b) (h2 : Fr5 fs b c) : Fr5 fs a c := ⟨fun f hf => (h2.1 f hf).trans (h.1 f hf), h2.2.trans h.2⟩
theorem Fr5.of {fs S : List Nat} {a b : zT} (h : FrG S a b) (h5 : 5 ∉ S) : Fr5 fs a b := ⟨fun f _ => by rw [(h.1 5 h5).1], (h.1 5 h5).2.1⟩
theorem Fr5.uS {fs : List Nat} {a σ : zT} {f : Nat} {v : Int32} (h : Fr5 fs a σ) (hf : f ∈ fs) : Fr5 fs a (uS σ 5 f v) := by
  refine ⟨fun q hq => ?_, h.2⟩
  have hne : ¬ (5 = 5 ∧ q = f) := fun e => hq (e.2 ▸ hf)
  rw [uS_1, if_neg hne]
  exact h.1 q hq
theorem zm1 : (-1 : Int32).toInt = -1 := by decide
theorem zm2 : (-2 : Int32).toInt = -2 := by decide
theorem dI_n {d : Option Nat} (h : ∀ x, d = some x → x ≤ 999) : (dI d = -2 ↔ d = none) := by
  cases d with
  | none => exact ⟨fun _ => rfl, fun _ => rfl⟩
  | some x =>
    have := h x rfl
    refine ⟨fun q => ?_, fun q => by cases q⟩
    exfalso
    rw [dI, zi_eq, nI_toInt (by omega), zm2] at q
    omega
theorem eM_n {e : Option (Nat × Nat)} (h : ∀ q, e = some q → q.1 < 2 ^ 31) : (eM e = -1 ↔ e = none) := by
  cases e with
  | none => exact ⟨fun _ => rfl, fun _ => rfl⟩
  | some x =>
    have := h x rfl
    refine ⟨fun q => ?_, fun q => by cases q⟩
    exfalso
    rw [eM, zi_eq, nI_toInt (by omega), zm1] at q
    omega

theorem c_X1_safest {E : zE} {σ : zT} {kr kl : Nat} {V : zV} {ρ : Nat → Nat} {c : Nat} (hW : WIs σ kr kl V ρ) (hc : c < vC V) : CalM E 3 yX1_safest cX1_safest 7 (some .int) [.ref (zA E 5 0), .ref (zA E kr 0), .ref (zA E kl 0), .int (nI c)] σ (fun r σ' => r = some (.int (eM (easy V ρ c))) ∧ σ'.1 5 3 = eD (easy V ρ c) ∧ WIs σ' kr kl V ρ ∧ FrG [kr, 5] σ σ' ∧ Fr5 [3] σ σ') := by
  refine cal_of_go (own := RX1) rfl (by decide +kernel) (Nat.le_of_ble_eq_true rfl) ?_
  have hV := hW.vok
  have h0 := hW.1.1
  have h1 := hW.1.2
  have hno := zR_no h0 h1
  have hok := hW.2.2.2.2.1
  have hn := hW.2.2.2.2.b
  have loop : ∀ (j : Nat) (τ : zT), j ≤ vN V → τ.1 5 3 = eD (saf V ρ c j) → WIs τ kr kl V ρ → FrG [kr, 5] σ τ → Fr5 [3] σ τ → GoM E 3 RX1 cX1_safest 7 (some .int) (fun r σ' => r = some (.int (eM (easy V ρ c))) ∧ σ'.1 5 3 = eD (easy V ρ c) ∧ WIs σ' kr kl V ρ ∧ FrG [kr, 5] σ σ' ∧ Fr5 [3] σ σ') τ 11 [(0, .ref (zA E 5 0)), (1, .ref (zA E kr 0)), (2, .ref (zA E kl 0)), (3, .int (nI c)), (4, .int (eM (saf V ρ c j))), (5, .int (nI j))] [] := by
    intro j
    induction hj : vN V - j using Nat.strongRecOn generalizing j with
    | ind q ih =>
      intro τ hjn hD hT hF hF5
      have hL := hT.2.2.2.2
      refine go_iload (pc := 11) dX1_safest_11 rfl ?_
      refine go_aload_n (i := 2) (pc := 13) dX1_safest_13 rfl rfl ?_
      refine go_callV ml_X1_69 mt_X2_miles (pc := 14) dX1_safest_14 (c_X2_miles h1 hL) (by first | rfl | (apply zL_cq <;> assumption) | (apply zR_cq <;> assumption)) rfl (by first | rfl | (apply zL_in <;> first | assumption | decide) | (apply zR_in <;> first | assumption | decide)) (by decide) (by decide) rfl rfl (Nat.le_of_ble_eq_true rfl) (fun r σ' hp => ?_)
      obtain ⟨rfl, hσ⟩ := hp
      rw [hσ]
      clear hσ σ'
      dsimp only [zRet]
      refine go_icmp_ge 76 (pc := 17) dX1_safest_17 (by decide) (fun h17 => ?_) (fun h17 => ?_)
      · first | rw [nI_leI (by omega) (by omega)] at h17 | rw [zi_leN (by omega)] at h17 | rw [zi_Nle (by omega)] at h17 | rw [zi_le] at h17
        have ej : j = vN V := by omega
        subst ej
        refine go_iload (pc := 76) dX1_safest_76 rfl ?_
        refine go_ireturn (pc := 78) dX1_safest_78 rfl ?_
        first
          | exact ⟨rfl, hD, hT, hF, hF5⟩
          | exact ⟨by rw [ee], by rw [ee]; exact hD, hT, hF, hF5⟩
      · first | rw [nI_leI (by omega) (by omega)] at h17 | rw [zi_leN (by omega)] at h17 | rw [zi_Nle (by omega)] at h17 | rw [zi_le] at h17
        refine go_aload_n (i := 0) (pc := 20) dX1_safest_20 rfl rfl ?_
        refine go_geti fl_X1_65 (pc := 21) dX1_safest_21 (by first | rfl | (apply zL_fi <;> first | assumption | decide) | (apply zR_fi <;> first | assumption | decide)) ?_
        rw [hD]
        refine go_if_eq 76 (pc := 24) dX1_safest_24 (by decide) (fun h24 => ?_) (fun h24 => ?_)
        · have e0 : ∃ b, saf V ρ c j = some (b, 0) := by
            cases hs : saf V ρ c j with
            | none => rw [hs] at h24; exact absurd h24 (by decide)
            | some b =>
              obtain ⟨b1, b2⟩ := b
              have := saf_lt hV hok hs
              rw [hs, eD, zn_eq0 (by omega)] at h24
              exact ⟨b1, by rw [show b2 = 0 from h24]⟩
          obtain ⟨b, hb⟩ := e0
          have ee : easy V ρ c = saf V ρ c j := by rw [hb]; have := saf_0 hb (vN V - j); rw [show j + (vN V - j) = vN V by omega] at this; exact this
          refine go_iload (pc := 76) dX1_safest_76 rfl ?_
          refine go_ireturn (pc := 78) dX1_safest_78 rfl ?_
          first
            | exact ⟨rfl, hD, hT, hF, hF5⟩
            | exact ⟨by rw [ee], by rw [ee]; exact hD, hT, hF, hF5⟩
        · refine go_aload_n (i := 0) (pc := 27) dX1_safest_27 rfl rfl ?_
          refine go_aload_n (i := 1) (pc := 28) dX1_safest_28 rfl rfl ?_
          refine go_aload_n (i := 2) (pc := 29) dX1_safest_29 rfl rfl ?_
          refine go_iload_n (i := 3) (pc := 30) dX1_safest_30 rfl rfl ?_
          refine go_iload (pc := 31) dX1_safest_31 rfl ?_
          refine go_callV ml_X1_72 mt_X1_dangerOf (pc := 33) dX1_safest_33 (c_X1_dangerOf hT hc (by omega)) (by first | rfl | (apply zL_cq <;> assumption) | (apply zR_cq <;> assumption)) rfl (by first | rfl | (apply zL_in <;> first | assumption | decide) | (apply zR_in <;> first | assumption | decide)) (by decide) (by decide) rfl rfl (Nat.le_of_ble_eq_true rfl) (fun r σ' hp => ?_)
          obtain ⟨rfl, hT2, hf⟩ := hp
          dsimp only [zRet]
          have hf5 : Fr5 [3] σ σ' := hF5.tr (Fr5.of hf (by simp; omega))
          have hF2 : FrG [kr, 5] σ σ' := hF.tr (hf.mono (by simp))
          have hD2 : σ'.1 5 3 = eD (saf V ρ c j) := by rw [(hf.1 5 (by simp; omega)).1]; exact hD
          have hdl : ∀ x, dng V ρ c j = some x → x ≤ 999 := fun x hx => dng_lt hV hok hx
          have hsl : ∀ b, saf V ρ c j = some b → b.1 < j ∧ b.2 ≤ 999 := fun b hb => saf_lt (b := b.1) (x := b.2) hV hok hb
          refine go_istore (pc := 36) dX1_safest_36 (by decide) ?_
          refine go_iload (pc := 38) dX1_safest_38 rfl ?_
          refine go_bipush (-2) (pc := 40) dX1_safest_40 (by decide) ?_
          refine go_icmp_eq 70 (pc := 42) dX1_safest_42 (by decide) (fun h42 => ?_) (fun h42 => ?_)
          · rw [dI_n hdl] at h42
            have es : saf V ρ c (j + 1) = saf V ρ c j := by rw [saf, h42]
            refine go_iincN (pc := 70) dX1_safest_70 rfl (by decide) ?_
            refine go_goto 11 (pc := 73) dX1_safest_73 (by decide) ?_
            refine go_drop [0, 1, 2, 3, 4, 5] rfl ?_
            first
              | (rw [← es]
                 exact ih (vN V - (j + 1)) (by omega) (j + 1) rfl _ (by omega) (by rw [es]; exact hD2) hT2 hF2 hf5)
              | (have e4 : Value.int (nI j) = Value.int (eM (saf V ρ c (j + 1))) := by rw [es]; rfl
                 rw [e4]
                 exact ih (vN V - (j + 1)) (by omega) (j + 1) rfl _ (by omega) (by rw [es, uS_s]; rfl) (hT2.fr (S := [5]) (FrG.rf.uS (by simp)) (by simp; omega)) (hF2.uS (by simp)) (hf5.uS (by simp)))
          · rw [dI_n hdl] at h42
            obtain ⟨x, hx⟩ : ∃ x, dng V ρ c j = some x := by { cases hd : dng V ρ c j with | none => exact absurd hd h42 | some x => exact ⟨x, rfl⟩ }
            have hx9 := hdl x hx
            rw [hx]
            refine go_iload (pc := 45) dX1_safest_45 rfl ?_
            refine go_iconst (-1) (pc := 47) dX1_safest_47 (by decide) ?_
            refine go_icmp_eq 60 (pc := 48) dX1_safest_48 (by decide) (fun h48 => ?_) (fun h48 => ?_)
            · rw [eM_n (fun b hb => by have := (hsl b hb).1; omega)] at h48
              have es : saf V ρ c (j + 1) = some (j, x) := by rw [saf, hx, h48]
              refine go_iload (pc := 60) dX1_safest_60 rfl ?_
              refine go_istore (pc := 62) dX1_safest_62 (by decide) ?_
              refine go_aload_n (i := 0) (pc := 64) dX1_safest_64 rfl rfl ?_
              refine go_iload (pc := 65) dX1_safest_65 rfl ?_
              refine go_puti fp_X1_65 (pc := 67) dX1_safest_67 (by first | rfl | (apply zL_fi <;> first | assumption | decide) | (apply zR_fi <;> first | assumption | decide)) rfl rfl ?_
              refine go_iincN (pc := 70) dX1_safest_70 rfl (by decide) ?_
              refine go_goto 11 (pc := 73) dX1_safest_73 (by decide) ?_
              refine go_drop [0, 1, 2, 3, 4, 5] rfl ?_
              first
                | (rw [← es]
                   exact ih (vN V - (j + 1)) (by omega) (j + 1) rfl _ (by omega) (by rw [es]; exact hD2) hT2 hF2 hf5)
                | (have e4 : Value.int (nI j) = Value.int (eM (saf V ρ c (j + 1))) := by rw [es]; rfl
                   rw [e4]
                   exact ih (vN V - (j + 1)) (by omega) (j + 1) rfl _ (by omega) (by rw [es, uS_s]; rfl) (hT2.fr (S := [5]) (FrG.rf.uS (by simp)) (by simp; omega)) (hF2.uS (by simp)) (hf5.uS (by simp)))
            · rw [eM_n (fun b hb => by have := (hsl b hb).1; omega)] at h48
              obtain ⟨b, hb⟩ : ∃ b, saf V ρ c j = some b := by { cases hd : saf V ρ c j with | none => exact absurd hd h48 | some x => exact ⟨x, rfl⟩ }
              have hbl := hsl b hb
              refine go_iload (pc := 51) dX1_safest_51 rfl ?_
              refine go_aload_n (i := 0) (pc := 53) dX1_safest_53 rfl rfl ?_
              refine go_geti fl_X1_65 (pc := 54) dX1_safest_54 (by first | rfl | (apply zL_fi <;> first | assumption | decide) | (apply zR_fi <;> first | assumption | decide)) ?_
              rw [hD2]
              refine go_icmp_ge 70 (pc := 57) dX1_safest_57 (by decide) (fun h57 => ?_) (fun h57 => ?_)
              · rw [hb, eD, dI, nI_leI (by omega) (by omega)] at h57
                have es : saf V ρ c (j + 1) = saf V ρ c j := by rw [saf, hx, hb]; exact if_neg (by omega)
                refine go_iincN (pc := 70) dX1_safest_70 rfl (by decide) ?_
                refine go_goto 11 (pc := 73) dX1_safest_73 (by decide) ?_
                refine go_drop [0, 1, 2, 3, 4, 5] rfl ?_
                first
                  | (rw [← es]
                     exact ih (vN V - (j + 1)) (by omega) (j + 1) rfl _ (by omega) (by rw [es]; exact hD2) hT2 hF2 hf5)
                  | (have e4 : Value.int (nI j) = Value.int (eM (saf V ρ c (j + 1))) := by rw [es]; rfl
                     rw [e4]
                     exact ih (vN V - (j + 1)) (by omega) (j + 1) rfl _ (by omega) (by rw [es, uS_s]; rfl) (hT2.fr (S := [5]) (FrG.rf.uS (by simp)) (by simp; omega)) (hF2.uS (by simp)) (hf5.uS (by simp)))
              · rw [hb, eD, dI, nI_leI (by omega) (by omega)] at h57
                have es : saf V ρ c (j + 1) = some (j, x) := by rw [saf, hx, hb]; exact if_pos (by omega)
                refine go_iload (pc := 60) dX1_safest_60 rfl ?_
                refine go_istore (pc := 62) dX1_safest_62 (by decide) ?_
                refine go_aload_n (i := 0) (pc := 64) dX1_safest_64 rfl rfl ?_
                refine go_iload (pc := 65) dX1_safest_65 rfl ?_
                refine go_puti fp_X1_65 (pc := 67) dX1_safest_67 (by first | rfl | (apply zL_fi <;> first | assumption | decide) | (apply zR_fi <;> first | assumption | decide)) rfl rfl ?_
                refine go_iincN (pc := 70) dX1_safest_70 rfl (by decide) ?_
                refine go_goto 11 (pc := 73) dX1_safest_73 (by decide) ?_
                refine go_drop [0, 1, 2, 3, 4, 5] rfl ?_
                first
                  | (rw [← es]
                     exact ih (vN V - (j + 1)) (by omega) (j + 1) rfl _ (by omega) (by rw [es]; exact hD2) hT2 hF2 hf5)
                  | (have e4 : Value.int (nI j) = Value.int (eM (saf V ρ c (j + 1))) := by rw [es]; rfl
                     rw [e4]
                     exact ih (vN V - (j + 1)) (by omega) (j + 1) rfl _ (by omega) (by rw [es, uS_s]; rfl) (hT2.fr (S := [5]) (FrG.rf.uS (by simp)) (by simp; omega)) (hF2.uS (by simp)) (hf5.uS (by simp)))
  refine go_iconst (-1) (pc := 0) dX1_safest_0 (by decide) ?_
  refine go_istore (pc := 1) dX1_safest_1 (by decide) ?_
  refine go_aload_n (i := 0) (pc := 3) dX1_safest_3 rfl rfl ?_
  refine go_iconst (-1) (pc := 4) dX1_safest_4 (by decide) ?_
  refine go_puti fp_X1_65 (pc := 5) dX1_safest_5 (by first | rfl | (apply zL_fi <;> first | assumption | decide) | (apply zR_fi <;> first | assumption | decide)) rfl rfl ?_
  refine go_iconst (nI 0) (pc := 8) dX1_safest_8 (by decide) ?_
  refine go_istore (pc := 9) dX1_safest_9 (by decide) ?_
  exact loop 0 _ (by omega) (by rw [uS_s]; rfl) (hW.fr (S := [5]) (FrG.rf.uS (by simp)) (by simp; omega)) (FrG.rf.uS (by simp)) (Fr5.rf.uS (by simp))

