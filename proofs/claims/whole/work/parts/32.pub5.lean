theorem thr_b {V : zV} {ρ : Nat → Nat} {n m : Nat} {B : Nat} (hB : ∀ j, j < m → (wks V (va_up ρ j 9) n).2.2.1 ≤ B) : ∀ q, thr V ρ n m = some q → q.1 < m ∧ q.2 ≤ B := by
  induction m with
  | zero => intro q h; cases h
  | succ m ih =>
    intro q h
    have ih := ih (fun j hj => hB j (by omega))
    have hm := hB m (by omega)
    unfold thr at h
    split at h
    · have := ih q h; omega
    · split at h
      · cases h; exact ⟨by dsimp only; omega, hm⟩
      · rename_i b x he
        have := ih _ he
        split at h
        · cases h; exact ⟨by dsimp only; omega, hm⟩
        · cases h; dsimp only at this ⊢; omega
theorem thr_g {V : zV} {ρ : Nat → Nat} {n m : Nat} (h : (ρ 24).testBit m = true) : thr V ρ n (m + 1) = thr V ρ n m := by rw [thr, if_pos h]
theorem thr_0 {V : zV} {ρ : Nat → Nat} {n m : Nat} (h : ¬ (ρ 24).testBit m = true) (h2 : thr V ρ n m = none) : thr V ρ n (m + 1) = some (m, (wks V (va_up ρ m 9) n).2.2.1) := by rw [thr, if_neg h, h2]
theorem thr_1 {V : zV} {ρ : Nat → Nat} {n m : Nat} {q : Nat × Nat} (h : ¬ (ρ 24).testBit m = true) (h2 : thr V ρ n m = some q) : thr V ρ n (m + 1) = if (wks V (va_up ρ m 9) n).2.2.1 < q.2 then some (m, (wks V (va_up ρ m 9) n).2.2.1) else some q := by rw [thr, if_neg h, h2]

set_option maxRecDepth 4000 in
theorem c_X11_thorns {E : zE} {σ : zT} {tx : Nat × (Nat → Nat)} {bd : Nat × (Nat → Nat) × (Nat → Nat)} {sk : Nat × (Nat → Nat)} {tw : Nat × (Nat → Nat) × (Nat → Nat)} {xs : List Nat} {ld : Nat × (Nat → Nat)} {pa sh : Nat × (Nat → Nat → Nat)} {ru : Nat × (Nat → Nat) × (Nat → Nat)} {to : Nat × (Nat → Int64)} {n : Int32} (hC : ClsIs σ tx bd sk tw xs ld pa sh ru to) (hro : Roomy ld.2) : CalM E 7 yX11_thorns cX11_thorns 6 (some .int) [.ref (zA E 0 0), .int n] σ (fun r σ' => r = some (.int (if 1 ≤ n.toInt ∧ n.toInt ≤ 20 then (match thr (vOf bd sk xs ld.1) ld.2 n.toInt.toNat ld.1 with | none => -2 | some q => nI q.1) else -1)) ∧ ClsIs σ' tx bd sk tw xs ld pa sh ru (if 1 ≤ n.toInt ∧ n.toInt ≤ 20 then (match thr (vOf bd sk xs ld.1) ld.2 n.toInt.toNat ld.1 with | none => to | some q => (2, ln2 (lN q.2) (lN (wks (vOf bd sk xs ld.1) ld.2 n.toInt.toNat).2.2.1))) else to) ∧ Fr33 σ σ') := by
  refine cal_of_go (own := RX11) rfl (by decide +kernel) (Nat.le_of_ble_eq_true rfl) ?_
  have hL := hC.2.2.2.2.2.1
  have hn := hL.b
  have hok := hL.1
  have hB0 := hC.2.2.1
  have hnc := hB0.1
  obtain ⟨kr0, hkr0, hz0, hR140, hW0⟩ := hC.w (kl := 6) rfl hL
  have hV := hW0.vok
  have main : ∀ n1 : Nat, 1 ≤ n1 → n1 ≤ 20 → GoM E 7 RX11 cX11_thorns 6 (some .int) (fun r σ' => r = some (.int (match thr (vOf bd sk xs ld.1) ld.2 n1 ld.1 with | none => -2 | some q => nI q.1)) ∧ ClsIs σ' tx bd sk tw xs ld pa sh ru (match thr (vOf bd sk xs ld.1) ld.2 n1 ld.1 with | none => to | some q => (2, ln2 (lN q.2) (lN (wks (vOf bd sk xs ld.1) ld.2 n1).2.2.1))) ∧ Fr33 σ σ') σ 13 [(0, .ref (zA E 0 0)), (1, .int (nI n1))] [] := by
    intro n1 hn1 hn2
    have hwk : ∀ j, j < ld.1 → (wks (vOf bd sk xs ld.1) (va_up ld.2 j 9) n1).2.2.1 ≤ 1440 := fun j hj => by
      have := (wks_ok hV (hok.lo (m := j) (v := 9) (by omega) (by omega)) n1 (by rw [va_at', if_neg (by omega)]; omega) (by rw [va_at', if_neg (by omega)]; omega)).2.2.2.1
      omega
    have loop : ∀ (i : Nat) (τ : zT), i ≤ ld.1 → (ClsIs τ tx bd sk tw xs ld pa sh ru to) → (Fr33 σ τ) → GoM E 7 RX11 cX11_thorns 6 (some .int) (fun r σ' => r = some (.int (match thr (vOf bd sk xs ld.1) ld.2 n1 ld.1 with | none => -2 | some q => nI q.1)) ∧ ClsIs σ' tx bd sk tw xs ld pa sh ru (match thr (vOf bd sk xs ld.1) ld.2 n1 ld.1 with | none => to | some q => (2, ln2 (lN q.2) (lN (wks (vOf bd sk xs ld.1) ld.2 n1).2.2.1))) ∧ Fr33 σ σ') τ 20 [(0, .ref (zA E 0 0)), (1, .int (nI n1)), (2, .int (eM (thr (vOf bd sk xs ld.1) ld.2 n1 i))), (3, .int (eF (thr (vOf bd sk xs ld.1) ld.2 n1 i))), (4, .int (nI i))] [] := by
      intro i
      induction hj : ld.1 - i using Nat.strongRecOn generalizing i with
      | ind z ih =>
        intro τ hi hCt hF
        have hLt := hCt.2.2.2.2.2.1
        have hbt := thr_b (m := i) (fun j hj => hwk j (by omega))
        refine go_iload (pc := 20) dX11_thorns_20 rfl ?_
        refine go_aload_n (i := 0) (pc := 22) dX11_thorns_22 rfl rfl ?_
        refine go_getr2 fl_X11_49 (pc := 23) dX11_thorns_23 (by first | rfl | (apply zL_ci <;> assumption) | (apply zR_ci <;> assumption)) (by first | rfl | (apply zL_in <;> first | assumption | decide) | (apply zR_in <;> first | assumption | decide)) (by first | rfl | (apply zL_fr0 <;> assumption) | (apply zL_fr1 <;> assumption) | (apply zR_fr0 <;> assumption) | (apply zR_fr1 <;> assumption) | (apply zR_fr2 <;> assumption) | (apply zR_fr3 <;> assumption)) ?_
        refine go_callV ml_X11_127 mt_X2_miles (pc := 26) dX11_thorns_26 (c_X2_miles rfl hLt) (by first | rfl | (apply zL_cq <;> assumption) | (apply zR_cq <;> assumption)) rfl (by first | rfl | (apply zL_in <;> first | assumption | decide) | (apply zR_in <;> first | assumption | decide)) (by decide) (by decide) rfl rfl (Nat.le_of_ble_eq_true rfl) (fun r σ' hp => ?_)
        obtain ⟨rfl, hσ⟩ := hp
        rw [hσ]
        clear hσ σ'
        dsimp only [zRet]
        refine go_icmp_ge 110 (pc := 29) dX11_thorns_29 (by decide) (fun h29 => ?_) (fun h29 => ?_)
        · first | rw [nI_leI (by omega) (by omega)] at h29 | rw [zi_leN (by omega)] at h29 | rw [zi_Nle (by omega)] at h29 | rw [zi_le] at h29
          have ei : i = ld.1 := by omega
          subst ei
          refine go_iload_n (i := 2) (pc := 110) dX11_thorns_110 rfl rfl ?_
          refine go_iconst (-1) (pc := 111) dX11_thorns_111 (by decide) ?_
          refine go_icmp_ne 118 (pc := 112) dX11_thorns_112 (by decide) (fun h112 => ?_) (fun h112 => ?_)
          · rw [eM_n (fun b hb => by have := (hbt b hb).1; omega)] at h112
            obtain ⟨q, hq⟩ : ∃ b, thr (vOf bd sk xs ld.1) ld.2 n1 ld.1 = some b := by { cases hd : thr (vOf bd sk xs ld.1) ld.2 n1 ld.1 with | none => exact absurd hd h112 | some x => exact ⟨x, rfl⟩ }
            have hqb := hbt q hq
            rw [hq]
            dsimp only [eM, eF]
            refine go_aload_n (i := 0) (pc := 118) dX11_thorns_118 rfl rfl ?_
            refine go_getr2 fl_X11_53 (pc := 119) dX11_thorns_119 (by first | rfl | (apply zL_ci <;> assumption) | (apply zR_ci <;> assumption)) (by first | rfl | (apply zL_in <;> first | assumption | decide) | (apply zR_in <;> first | assumption | decide)) (by first | rfl | (apply zL_fr0 <;> assumption) | (apply zL_fr1 <;> assumption) | (apply zR_fr0 <;> assumption) | (apply zR_fr1 <;> assumption) | (apply zR_fr2 <;> assumption) | (apply zR_fr3 <;> assumption)) ?_
            refine go_aload_n (i := 0) (pc := 122) dX11_thorns_122 rfl rfl ?_
            refine go_getr2 fl_X11_49 (pc := 123) dX11_thorns_123 (by first | rfl | (apply zL_ci <;> assumption) | (apply zR_ci <;> assumption)) (by first | rfl | (apply zL_in <;> first | assumption | decide) | (apply zR_in <;> first | assumption | decide)) (by first | rfl | (apply zL_fr0 <;> assumption) | (apply zL_fr1 <;> assumption) | (apply zR_fr0 <;> assumption) | (apply zR_fr1 <;> assumption) | (apply zR_fr2 <;> assumption) | (apply zR_fr3 <;> assumption)) ?_
            refine go_callV ml_X11_198 mt_X2_copyFrom (pc := 126) dX11_thorns_126 (c_X2_copyFrom rfl rfl hLt) (by first | rfl | (apply zL_cq <;> assumption) | (apply zR_cq <;> assumption)) rfl (by first | rfl | (apply zL_in <;> first | assumption | decide) | (apply zR_in <;> first | assumption | decide)) (by decide) (by decide) rfl rfl (Nat.le_of_ble_eq_true rfl) (fun r σ' hp => ?_)
            obtain ⟨rfl, hb, hf⟩ := hp
            dsimp only [zRet]
            have hC1 := hCt.fr hf (by simp)
            obtain ⟨kr, hkr, hz, hR14, hW⟩ := hC1.w (kl := 7) rfl hb
            refine go_aload_n (i := 0) (pc := 129) dX11_thorns_129 rfl rfl ?_
            refine go_getr2 fl_X11_83 (pc := 130) dX11_thorns_130 (by first | rfl | (apply zL_ci <;> assumption) | (apply zR_ci <;> assumption)) (by first | rfl | (apply zL_in <;> first | assumption | decide) | (apply zR_in <;> first | assumption | decide)) (by first | rfl | (apply zL_fr0 <;> assumption) | (apply zL_fr1 <;> assumption) | (apply zR_fr0 <;> assumption) | (apply zR_fr1 <;> assumption) | (apply zR_fr2 <;> assumption) | (apply zR_fr3 <;> assumption)) ?_
            refine go_iload_n (i := 3) (pc := 133) dX11_thorns_133 rfl rfl ?_
            refine go_i2l (pc := 134) dX11_thorns_134 ?_
            rw [nI_l (by omega)]
            refine go_aload_n (i := 0) (pc := 135) dX11_thorns_135 rfl rfl ?_
            refine go_getr2 fl_X11_42 (pc := 136) dX11_thorns_136 (by first | rfl | (apply zL_ci <;> assumption) | (apply zR_ci <;> assumption)) (by first | rfl | (apply zL_in <;> first | assumption | decide) | (apply zR_in <;> first | assumption | decide)) (by first | rfl | (apply zL_fr0 <;> assumption) | (apply zL_fr1 <;> assumption) | (apply zR_fr0 <;> assumption) | (apply zR_fr1 <;> assumption) | (apply zR_fr2 <;> assumption) | (apply zR_fr3 <;> assumption)) ?_
            refine go_aload_n (i := 0) (pc := 139) dX11_thorns_139 rfl rfl ?_
            refine go_getR fl_X11_97 (pc := 140) dX11_thorns_140 rfl ?_
            rw [hR14]
            refine go_aload_n (i := 0) (pc := 143) dX11_thorns_143 rfl rfl ?_
            refine go_getr2 fl_X11_53 (pc := 144) dX11_thorns_144 (by first | rfl | (apply zL_ci <;> assumption) | (apply zR_ci <;> assumption)) (by first | rfl | (apply zL_in <;> first | assumption | decide) | (apply zR_in <;> first | assumption | decide)) (by first | rfl | (apply zL_fr0 <;> assumption) | (apply zL_fr1 <;> assumption) | (apply zR_fr0 <;> assumption) | (apply zR_fr1 <;> assumption) | (apply zR_fr2 <;> assumption) | (apply zR_fr3 <;> assumption)) ?_
            refine go_iload_n (i := 1) (pc := 147) dX11_thorns_147 rfl rfl ?_
            refine go_callV ml_X11_217 mt_X1_pass (pc := 148) dX11_thorns_148 (c_X1_pass hW (by omega) (by omega)) (by first | rfl | (apply zL_cq <;> assumption) | (apply zR_cq <;> assumption)) rfl (by first | rfl | (apply zL_in <;> first | assumption | decide) | (apply zR_in <;> first | assumption | decide)) (by decide) (by decide) rfl rfl (Nat.le_of_ble_eq_true rfl) (fun r σ' hp => ?_)
            obtain ⟨rfl, hE5, hE6, hE4, hW2, hf3⟩ := hp
            dsimp only [zRet]
            have hC3 := hC1.try hz hR14 (Or.inl rfl) hf3 rfl hW2
            have hw0 := (wks_ok hW.vok hok n1 (by omega) (by omega)).2.2.2.1
            refine go_i2l (pc := 151) dX11_thorns_151 ?_
            rw [nI_l (by omega)]
            refine go_callV ml_X11_223 mt_X9_two (pc := 152) dX11_thorns_152 (c_X9_two) (by first | rfl | (apply zL_cq <;> assumption) | (apply zR_cq <;> assumption)) rfl (by first | rfl | (apply zL_in <;> first | assumption | decide) | (apply zR_in <;> first | assumption | decide)) (by decide) (by decide) rfl rfl (Nat.le_of_ble_eq_true rfl) (fun r σ' hp => ?_)
            obtain ⟨rfl, hT4, hf4⟩ := hp
            dsimp only [zRet]
            refine go_iload_n (i := 2) (pc := 155) dX11_thorns_155 rfl rfl ?_
            refine go_ireturn (pc := 156) dX11_thorns_156 rfl ?_
            exact ⟨rfl, hC3.setTo (to' := (2, _)) hf4 hT4, hF.tr (((Fr33.of hf (by simp)).tr (Fr33.of hf3 (by simp; omega))).tr (Fr33.of hf4 (by simp)))⟩
          · rw [eM_n (fun b hb => by have := (hbt b hb).1; omega)] at h112
            rw [h112]
            refine go_bipush (-2) (pc := 115) dX11_thorns_115 (by decide) ?_
            refine go_ireturn (pc := 117) dX11_thorns_117 rfl ?_
            exact ⟨rfl, hCt, hF⟩
        · first | rw [nI_leI (by omega) (by omega)] at h29 | rw [zi_leN (by omega)] at h29 | rw [zi_Nle (by omega)] at h29 | rw [zi_le] at h29
          refine go_aload_n (i := 0) (pc := 32) dX11_thorns_32 rfl rfl ?_
          refine go_getr2 fl_X11_49 (pc := 33) dX11_thorns_33 (by first | rfl | (apply zL_ci <;> assumption) | (apply zR_ci <;> assumption)) (by first | rfl | (apply zL_in <;> first | assumption | decide) | (apply zR_in <;> first | assumption | decide)) (by first | rfl | (apply zL_fr0 <;> assumption) | (apply zL_fr1 <;> assumption) | (apply zR_fr0 <;> assumption) | (apply zR_fr1 <;> assumption) | (apply zR_fr2 <;> assumption) | (apply zR_fr3 <;> assumption)) ?_
          refine go_iload (pc := 36) dX11_thorns_36 rfl ?_
          refine go_callV ml_X11_153 mt_X2_hasGate (pc := 38) dX11_thorns_38 (c_X2_hasGate rfl hLt (by omega)) (by first | rfl | (apply zL_cq <;> assumption) | (apply zR_cq <;> assumption)) rfl (by first | rfl | (apply zL_in <;> first | assumption | decide) | (apply zR_in <;> first | assumption | decide)) (by decide) (by decide) rfl rfl (Nat.le_of_ble_eq_true rfl) (fun r σ' hp => ?_)
          obtain ⟨rfl, hσ⟩ := hp
          rw [hσ]
          clear hσ σ'
          dsimp only [zRet]
          refine go_if_eq 47 (pc := 41) dX11_thorns_41 (by decide) (fun h41 => ?_) (fun h41 => ?_)
          · rw [zb_0] at h41
            have hg : ¬ (ld.2 24).testBit i = true := by rw [h41]; decide
            refine go_aload_n (i := 0) (pc := 47) dX11_thorns_47 rfl rfl ?_
            refine go_getr2 fl_X11_53 (pc := 48) dX11_thorns_48 (by first | rfl | (apply zL_ci <;> assumption) | (apply zR_ci <;> assumption)) (by first | rfl | (apply zL_in <;> first | assumption | decide) | (apply zR_in <;> first | assumption | decide)) (by first | rfl | (apply zL_fr0 <;> assumption) | (apply zL_fr1 <;> assumption) | (apply zR_fr0 <;> assumption) | (apply zR_fr1 <;> assumption) | (apply zR_fr2 <;> assumption) | (apply zR_fr3 <;> assumption)) ?_
            refine go_aload_n (i := 0) (pc := 51) dX11_thorns_51 rfl rfl ?_
            refine go_getr2 fl_X11_49 (pc := 52) dX11_thorns_52 (by first | rfl | (apply zL_ci <;> assumption) | (apply zR_ci <;> assumption)) (by first | rfl | (apply zL_in <;> first | assumption | decide) | (apply zR_in <;> first | assumption | decide)) (by first | rfl | (apply zL_fr0 <;> assumption) | (apply zL_fr1 <;> assumption) | (apply zR_fr0 <;> assumption) | (apply zR_fr1 <;> assumption) | (apply zR_fr2 <;> assumption) | (apply zR_fr3 <;> assumption)) ?_
            refine go_callV ml_X11_198 mt_X2_copyFrom (pc := 55) dX11_thorns_55 (c_X2_copyFrom rfl rfl hLt) (by first | rfl | (apply zL_cq <;> assumption) | (apply zR_cq <;> assumption)) rfl (by first | rfl | (apply zL_in <;> first | assumption | decide) | (apply zR_in <;> first | assumption | decide)) (by decide) (by decide) rfl rfl (Nat.le_of_ble_eq_true rfl) (fun r σ' hp => ?_)
            obtain ⟨rfl, hb, hf⟩ := hp
            dsimp only [zRet]
            have hC1 := hCt.fr hf (by simp)
            refine go_aload_n (i := 0) (pc := 58) dX11_thorns_58 rfl rfl ?_
            refine go_getr2 fl_X11_53 (pc := 59) dX11_thorns_59 (by first | rfl | (apply zL_ci <;> assumption) | (apply zR_ci <;> assumption)) (by first | rfl | (apply zL_in <;> first | assumption | decide) | (apply zR_in <;> first | assumption | decide)) (by first | rfl | (apply zL_fr0 <;> assumption) | (apply zL_fr1 <;> assumption) | (apply zR_fr0 <;> assumption) | (apply zR_fr1 <;> assumption) | (apply zR_fr2 <;> assumption) | (apply zR_fr3 <;> assumption)) ?_
            refine go_iload (pc := 62) dX11_thorns_62 rfl ?_
            refine go_bipush (nI 9) (pc := 64) dX11_thorns_64 (by decide) ?_
            refine go_callV ml_X11_191 mt_X2_setHedge (pc := 66) dX11_thorns_66 (c_X2_setHedge rfl hb (by omega)) (by first | rfl | (apply zL_cq <;> assumption) | (apply zR_cq <;> assumption)) rfl (by first | rfl | (apply zL_in <;> first | assumption | decide) | (apply zR_in <;> first | assumption | decide)) (by decide) (by decide) rfl rfl (Nat.le_of_ble_eq_true rfl) (fun r σ' hp => ?_)
            obtain ⟨rfl, hb2, hf2⟩ := hp
            dsimp only [zRet]
            have hC2 := hC1.fr hf2 (by simp)
            rw [clp_in (Nat.le_refl 9) (by decide)] at hb2
            obtain ⟨kr, hkr, hz, hR14, hW⟩ := hC2.w (kl := 7) rfl hb2
            refine go_aload_n (i := 0) (pc := 69) dX11_thorns_69 rfl rfl ?_
            refine go_getr2 fl_X11_42 (pc := 70) dX11_thorns_70 (by first | rfl | (apply zL_ci <;> assumption) | (apply zR_ci <;> assumption)) (by first | rfl | (apply zL_in <;> first | assumption | decide) | (apply zR_in <;> first | assumption | decide)) (by first | rfl | (apply zL_fr0 <;> assumption) | (apply zL_fr1 <;> assumption) | (apply zR_fr0 <;> assumption) | (apply zR_fr1 <;> assumption) | (apply zR_fr2 <;> assumption) | (apply zR_fr3 <;> assumption)) ?_
            refine go_aload_n (i := 0) (pc := 73) dX11_thorns_73 rfl rfl ?_
            refine go_getR fl_X11_97 (pc := 74) dX11_thorns_74 rfl ?_
            rw [hR14]
            refine go_aload_n (i := 0) (pc := 77) dX11_thorns_77 rfl rfl ?_
            refine go_getr2 fl_X11_53 (pc := 78) dX11_thorns_78 (by first | rfl | (apply zL_ci <;> assumption) | (apply zR_ci <;> assumption)) (by first | rfl | (apply zL_in <;> first | assumption | decide) | (apply zR_in <;> first | assumption | decide)) (by first | rfl | (apply zL_fr0 <;> assumption) | (apply zL_fr1 <;> assumption) | (apply zR_fr0 <;> assumption) | (apply zR_fr1 <;> assumption) | (apply zR_fr2 <;> assumption) | (apply zR_fr3 <;> assumption)) ?_
            refine go_iload_n (i := 1) (pc := 81) dX11_thorns_81 rfl rfl ?_
            refine go_callV ml_X11_217 mt_X1_pass (pc := 82) dX11_thorns_82 (c_X1_pass hW (by rw [va_at', if_neg (by omega)]; omega) (by rw [va_at', if_neg (by omega)]; omega)) (by first | rfl | (apply zL_cq <;> assumption) | (apply zR_cq <;> assumption)) rfl (by first | rfl | (apply zL_in <;> first | assumption | decide) | (apply zR_in <;> first | assumption | decide)) (by decide) (by decide) rfl rfl (Nat.le_of_ble_eq_true rfl) (fun r σ' hp => ?_)
            obtain ⟨rfl, hE5, hE6, hE4, hW2, hf3⟩ := hp
            dsimp only [zRet]
            have hC3 := hC2.try hz hR14 (Or.inl rfl) hf3 rfl hW2
            have hF3 := hF.tr (((Fr33.of hf (by simp)).tr (Fr33.of hf2 (by simp))).tr (Fr33.of hf3 (by simp; omega)))
            have hwm := hwk i (by omega)
            refine go_istore (pc := 85) dX11_thorns_85 (by decide) ?_
            refine go_iload_n (i := 2) (pc := 87) dX11_thorns_87 rfl rfl ?_
            refine go_iconst (-1) (pc := 88) dX11_thorns_88 (by decide) ?_
            refine go_icmp_eq 98 (pc := 89) dX11_thorns_89 (by decide) (fun h89 => ?_) (fun h89 => ?_)
            · rw [eM_n (fun b hb => by have := (hbt b hb).1; omega)] at h89
              have es := thr_0 hg h89
              have e2 : Value.int (nI i) = Value.int (eM (thr (vOf bd sk xs ld.1) ld.2 n1 (i + 1))) := by rw [es]; rfl
              have e3 : Value.int (nI (wks (vOf bd sk xs ld.1) (va_up ld.2 i 9) n1).2.2.1) = Value.int (eF (thr (vOf bd sk xs ld.1) ld.2 n1 (i + 1))) := by rw [es]; rfl
              refine go_iload (pc := 98) dX11_thorns_98 rfl ?_
              refine go_istore_n (i := 2) (pc := 100) dX11_thorns_100 rfl (by decide) ?_
              refine go_iload (pc := 101) dX11_thorns_101 rfl ?_
              refine go_istore_n (i := 3) (pc := 103) dX11_thorns_103 rfl (by decide) ?_
              refine go_iincN (pc := 104) dX11_thorns_104 rfl (by decide) ?_
              refine go_goto 20 (pc := 107) dX11_thorns_107 (by decide) ?_
              refine go_drop [0, 1, 2, 3, 4] rfl ?_
              first
                | (rw [← es]; exact ih (ld.1 - (i + 1)) (by omega) (i + 1) rfl _ (by omega) hC3 hF3)
                | (rw [e2, e3]; exact ih (ld.1 - (i + 1)) (by omega) (i + 1) rfl _ (by omega) hC3 hF3)
            · rw [eM_n (fun b hb => by have := (hbt b hb).1; omega)] at h89
              obtain ⟨q, hq⟩ : ∃ b, thr (vOf bd sk xs ld.1) ld.2 n1 i = some b := by { cases hd : thr (vOf bd sk xs ld.1) ld.2 n1 i with | none => exact absurd hd h89 | some x => exact ⟨x, rfl⟩ }
              have hqb := hbt q hq
              have es0 := thr_1 hg hq
              refine go_iload (pc := 92) dX11_thorns_92 rfl ?_
              refine go_iload_n (i := 3) (pc := 94) dX11_thorns_94 rfl rfl ?_
              refine go_icmp_ge 104 (pc := 95) dX11_thorns_95 (by decide) (fun h95 => ?_) (fun h95 => ?_)
              · rw [hq, eF, nI_leI (by omega) (by omega)] at h95
                have es : thr (vOf bd sk xs ld.1) ld.2 n1 (i + 1) = thr (vOf bd sk xs ld.1) ld.2 n1 i := by rw [es0, if_neg (by omega), hq]
                refine go_iincN (pc := 104) dX11_thorns_104 rfl (by decide) ?_
                refine go_goto 20 (pc := 107) dX11_thorns_107 (by decide) ?_
                refine go_drop [0, 1, 2, 3, 4] rfl ?_
                first
                  | (rw [← es]; exact ih (ld.1 - (i + 1)) (by omega) (i + 1) rfl _ (by omega) hC3 hF3)
                  | (rw [e2, e3]; exact ih (ld.1 - (i + 1)) (by omega) (i + 1) rfl _ (by omega) hC3 hF3)
              · rw [hq, eF, nI_leI (by omega) (by omega)] at h95
                have es : thr (vOf bd sk xs ld.1) ld.2 n1 (i + 1) = some (i, (wks (vOf bd sk xs ld.1) (va_up ld.2 i 9) n1).2.2.1) := by rw [es0, if_pos (by omega)]
                have e2 : Value.int (nI i) = Value.int (eM (thr (vOf bd sk xs ld.1) ld.2 n1 (i + 1))) := by rw [es]; rfl
                have e3 : Value.int (nI (wks (vOf bd sk xs ld.1) (va_up ld.2 i 9) n1).2.2.1) = Value.int (eF (thr (vOf bd sk xs ld.1) ld.2 n1 (i + 1))) := by rw [es]; rfl
                refine go_iload (pc := 98) dX11_thorns_98 rfl ?_
                refine go_istore_n (i := 2) (pc := 100) dX11_thorns_100 rfl (by decide) ?_
                refine go_iload (pc := 101) dX11_thorns_101 rfl ?_
                refine go_istore_n (i := 3) (pc := 103) dX11_thorns_103 rfl (by decide) ?_
                refine go_iincN (pc := 104) dX11_thorns_104 rfl (by decide) ?_
                refine go_goto 20 (pc := 107) dX11_thorns_107 (by decide) ?_
                refine go_drop [0, 1, 2, 3, 4] rfl ?_
                first
                  | (rw [← es]; exact ih (ld.1 - (i + 1)) (by omega) (i + 1) rfl _ (by omega) hC3 hF3)
                  | (rw [e2, e3]; exact ih (ld.1 - (i + 1)) (by omega) (i + 1) rfl _ (by omega) hC3 hF3)
          · rw [zb_0] at h41
            have hg : (ld.2 24).testBit i = true := by simpa using h41
            have es := thr_g (V := vOf bd sk xs ld.1) (n := n1) hg
            have hC3 := hCt
            have hF3 := hF
            refine go_goto 104 (pc := 44) dX11_thorns_44 (by decide) ?_
            refine go_iincN (pc := 104) dX11_thorns_104 rfl (by decide) ?_
            refine go_goto 20 (pc := 107) dX11_thorns_107 (by decide) ?_
            refine go_drop [0, 1, 2, 3, 4] rfl ?_
            first
              | (rw [← es]; exact ih (ld.1 - (i + 1)) (by omega) (i + 1) rfl _ (by omega) hC3 hF3)
              | (rw [e2, e3]; exact ih (ld.1 - (i + 1)) (by omega) (i + 1) rfl _ (by omega) hC3 hF3)
    refine go_iconst (-1) (pc := 13) dX11_thorns_13 (by decide) ?_
    refine go_istore_n (i := 2) (pc := 14) dX11_thorns_14 rfl (by decide) ?_
    refine go_iconst (nI 0) (pc := 15) dX11_thorns_15 (by decide) ?_
    refine go_istore_n (i := 3) (pc := 16) dX11_thorns_16 rfl (by decide) ?_
    refine go_iconst (nI 0) (pc := 17) dX11_thorns_17 (by decide) ?_
    refine go_istore (pc := 18) dX11_thorns_18 (by decide) ?_
    exact loop 0 _ (by omega) hC Fr33.rf
  refine go_iload_n (i := 1) (pc := 0) dX11_thorns_0 rfl rfl ?_
  refine go_iconst (nI 1) (pc := 1) dX11_thorns_1 (by decide) ?_
  refine go_icmp_lt 11 (pc := 2) dX11_thorns_2 (by decide) (fun h2 => ?_) (fun h2 => ?_)
  · first | rw [nI_ltI (by omega) (by omega)] at h2 | rw [zi_ltN (by omega)] at h2 | rw [zi_Nlt (by omega)] at h2 | rw [zi_lt] at h2
    refine go_iconst (-1) (pc := 11) dX11_thorns_11 (by decide) ?_
    refine go_ireturn (pc := 12) dX11_thorns_12 rfl ?_
    rw [if_neg (by omega), if_neg (by omega)]
    exact ⟨rfl, hC, Fr33.rf⟩
  · first | rw [nI_ltI (by omega) (by omega)] at h2 | rw [zi_ltN (by omega)] at h2 | rw [zi_Nlt (by omega)] at h2 | rw [zi_lt] at h2
    refine go_iload_n (i := 1) (pc := 5) dX11_thorns_5 rfl rfl ?_
    refine go_bipush (nI 20) (pc := 6) dX11_thorns_6 (by decide) ?_
    refine go_icmp_le 13 (pc := 8) dX11_thorns_8 (by decide) (fun h8 => ?_) (fun h8 => ?_)
    · first | rw [nI_leI (by omega) (by omega)] at h8 | rw [zi_leN (by omega)] at h8 | rw [zi_Nle (by omega)] at h8 | rw [zi_le] at h8
      rw [if_pos (by omega : 1 ≤ n.toInt ∧ n.toInt ≤ 20), if_pos (by omega : 1 ≤ n.toInt ∧ n.toInt ≤ 20)]
      have en := nI_of' (x := n) (by omega)
      generalize hqn : n.toInt.toNat = n1 at en ⊢
      have hn1 : 1 ≤ n1 ∧ n1 ≤ 20 := by omega
      subst en
      exact main n1 hn1.1 hn1.2
    · first | rw [nI_leI (by omega) (by omega)] at h8 | rw [zi_leN (by omega)] at h8 | rw [zi_Nle (by omega)] at h8 | rw [zi_le] at h8
      refine go_iconst (-1) (pc := 11) dX11_thorns_11 (by decide) ?_
      refine go_ireturn (pc := 12) dX11_thorns_12 rfl ?_
      rw [if_neg (by omega), if_neg (by omega)]
      exact ⟨rfl, hC, Fr33.rf⟩

theorem c_X11_drawsOver {E : zE} {σ : zT} {tx : Nat × (Nat → Nat)} {bd : Nat × (Nat → Nat) × (Nat → Nat)} {sk : Nat × (Nat → Nat)} {tw : Nat × (Nat → Nat) × (Nat → Nat)} {xs : List Nat} {ld : Nat × (Nat → Nat)} {pa sh : Nat × (Nat → Nat → Nat)} {ru : Nat × (Nat → Nat) × (Nat → Nat)} {to : Nat × (Nat → Int64)} {m : Nat} (hC : ClsIs σ tx bd sk tw xs ld pa sh ru to) (hm : m < ld.1) : CalM E 4 yX11_drawsOver cX11_drawsOver 4 (some .boolean) [.ref (zA E 0 0), .int (nI m)] σ (fun r σ' => r = some (.int (zb (drw (vOf bd sk xs ld.1) ld.2 m bd.1))) ∧ ClsIs σ' tx bd sk tw xs ld pa sh ru to ∧ Fr33 σ σ') := by
  refine cal_of_go (own := RX11) rfl (by decide +kernel) (Nat.le_of_ble_eq_true rfl) ?_
  have hL := hC.2.2.2.2.2.1
  have hn := hL.b
  have hok := hL.1
  have hB0 := hC.2.2.1
  have hnc := hB0.1
  have loop : ∀ (i : Nat) (τ : zT), i ≤ bd.1 → (ClsIs τ tx bd sk tw xs ld pa sh ru to) → (Fr33 σ τ) → (drw (vOf bd sk xs ld.1) ld.2 m i = false) → GoM E 4 RX11 cX11_drawsOver 4 (some .boolean) (fun r σ' => r = some (.int (zb (drw (vOf bd sk xs ld.1) ld.2 m bd.1))) ∧ ClsIs σ' tx bd sk tw xs ld pa sh ru to ∧ Fr33 σ σ') τ 2 [(0, .ref (zA E 0 0)), (1, .int (nI m)), (2, .int (nI i))] [] := by
    intro i
    induction hj : bd.1 - i using Nat.strongRecOn generalizing i with
    | ind z ih =>
      intro τ hi hCt hF hno
      obtain ⟨kr, hkr, hz, hR14, hW⟩ := hCt.w (kl := 6) rfl hCt.2.2.2.2.2.1
      have hB := hCt.2.2.1
      have hk4 := fun hq => (hB.2.2 i hq).2.2.1
      refine go_iload_n (i := 2) (pc := 2) dX11_drawsOver_2 rfl rfl ?_
      refine go_aload_n (i := 0) (pc := 3) dX11_drawsOver_3 rfl rfl ?_
      refine go_getr2 fl_X11_19 (pc := 4) dX11_drawsOver_4 (by first | rfl | (apply zL_ci <;> assumption) | (apply zR_ci <;> assumption)) (by first | rfl | (apply zL_in <;> first | assumption | decide) | (apply zR_in <;> first | assumption | decide)) (by first | rfl | (apply zL_fr0 <;> assumption) | (apply zL_fr1 <;> assumption) | (apply zR_fr0 <;> assumption) | (apply zR_fr1 <;> assumption) | (apply zR_fr2 <;> assumption) | (apply zR_fr3 <;> assumption)) ?_
      refine go_callV ml_X11_304 mt_X0_size (pc := 7) dX11_drawsOver_7 (c_X0_size hB) (by first | rfl | (apply zL_cq <;> assumption) | (apply zR_cq <;> assumption)) rfl (by first | rfl | (apply zL_in <;> first | assumption | decide) | (apply zR_in <;> first | assumption | decide)) (by decide) (by decide) rfl rfl (Nat.le_of_ble_eq_true rfl) (fun r σ' hp => ?_)
      obtain ⟨rfl, hσ⟩ := hp
      rw [hσ]
      clear hσ σ'
      dsimp only [zRet]
      refine go_icmp_ge 76 (pc := 10) dX11_drawsOver_10 (by decide) (fun h10 => ?_) (fun h10 => ?_)
      · first | rw [nI_leI (by omega) (by omega)] at h10 | rw [zi_leN (by omega)] at h10 | rw [zi_Nle (by omega)] at h10 | rw [zi_le] at h10
        have ei : i = bd.1 := by omega
        subst ei
        refine go_iconst (nI 0) (pc := 76) dX11_drawsOver_76 (by decide) ?_
        refine go_zreturn (pc := 77) dX11_drawsOver_77 rfl rfl ?_
        exact ⟨by rw [hno]; rfl, hCt, hF⟩
      · first | rw [nI_leI (by omega) (by omega)] at h10 | rw [zi_leN (by omega)] at h10 | rw [zi_Nle (by omega)] at h10 | rw [zi_le] at h10
        refine go_aload_n (i := 0) (pc := 13) dX11_drawsOver_13 rfl rfl ?_
        refine go_getr2 fl_X11_19 (pc := 14) dX11_drawsOver_14 (by first | rfl | (apply zL_ci <;> assumption) | (apply zR_ci <;> assumption)) (by first | rfl | (apply zL_in <;> first | assumption | decide) | (apply zR_in <;> first | assumption | decide)) (by first | rfl | (apply zL_fr0 <;> assumption) | (apply zL_fr1 <;> assumption) | (apply zR_fr0 <;> assumption) | (apply zR_fr1 <;> assumption) | (apply zR_fr2 <;> assumption) | (apply zR_fr3 <;> assumption)) ?_
        refine go_iload_n (i := 2) (pc := 17) dX11_drawsOver_17 rfl rfl ?_
        refine go_callV ml_X11_160 mt_X0_kindOf (pc := 18) dX11_drawsOver_18 (c_X0_kindOf hB (by omega)) (by first | rfl | (apply zL_cq <;> assumption) | (apply zR_cq <;> assumption)) rfl (by first | rfl | (apply zL_in <;> first | assumption | decide) | (apply zR_in <;> first | assumption | decide)) (by decide) (by decide) rfl rfl (Nat.le_of_ble_eq_true rfl) (fun r σ' hp => ?_)
        obtain ⟨rfl, hσ⟩ := hp
        rw [hσ]
        clear hσ σ'
        dsimp only [zRet]
        have hk4 := hk4 (by omega)
        refine go_iconst (nI 2) (pc := 21) dX11_drawsOver_21 (by decide) ?_
        refine go_icmp_le 28 (pc := 22) dX11_drawsOver_22 (by decide) (fun h22 => ?_) (fun h22 => ?_)
        · first | rw [nI_leI (by omega) (by omega)] at h22 | rw [zi_leN (by omega)] at h22 | rw [zi_Nle (by omega)] at h22 | rw [zi_le] at h22
          refine go_aload_n (i := 0) (pc := 28) dX11_drawsOver_28 rfl rfl ?_
          refine go_getr2 fl_X11_42 (pc := 29) dX11_drawsOver_29 (by first | rfl | (apply zL_ci <;> assumption) | (apply zR_ci <;> assumption)) (by first | rfl | (apply zL_in <;> first | assumption | decide) | (apply zR_in <;> first | assumption | decide)) (by first | rfl | (apply zL_fr0 <;> assumption) | (apply zL_fr1 <;> assumption) | (apply zR_fr0 <;> assumption) | (apply zR_fr1 <;> assumption) | (apply zR_fr2 <;> assumption) | (apply zR_fr3 <;> assumption)) ?_
          refine go_aload_n (i := 0) (pc := 32) dX11_drawsOver_32 rfl rfl ?_
          refine go_getR fl_X11_97 (pc := 33) dX11_drawsOver_33 rfl ?_
          rw [hR14]
          refine go_aload_n (i := 0) (pc := 36) dX11_drawsOver_36 rfl rfl ?_
          refine go_getr2 fl_X11_49 (pc := 37) dX11_drawsOver_37 (by first | rfl | (apply zL_ci <;> assumption) | (apply zR_ci <;> assumption)) (by first | rfl | (apply zL_in <;> first | assumption | decide) | (apply zR_in <;> first | assumption | decide)) (by first | rfl | (apply zL_fr0 <;> assumption) | (apply zL_fr1 <;> assumption) | (apply zR_fr0 <;> assumption) | (apply zR_fr1 <;> assumption) | (apply zR_fr2 <;> assumption) | (apply zR_fr3 <;> assumption)) ?_
          refine go_iload_n (i := 2) (pc := 40) dX11_drawsOver_40 rfl rfl ?_
          refine go_iload_n (i := 1) (pc := 41) dX11_drawsOver_41 rfl rfl ?_
          refine go_callV ml_X11_183 mt_X1_dangerOf (pc := 42) dX11_drawsOver_42 (c_X1_dangerOf hW (by omega : i < bd.1) hm) (by first | rfl | (apply zL_cq <;> assumption) | (apply zR_cq <;> assumption)) rfl (by first | rfl | (apply zL_in <;> first | assumption | decide) | (apply zR_in <;> first | assumption | decide)) (by decide) (by decide) rfl rfl (Nat.le_of_ble_eq_true rfl) (fun r σ' hp => ?_)
          obtain ⟨rfl, hW2, hf⟩ := hp
          dsimp only [zRet]
          have hC2 := hCt.look hz hR14 hf (by simp) rfl hW2
          have hF2 := hF.tr (Fr33.of hf (by simp; omega))
          have hdl : ∀ x, dng (vOf bd sk xs ld.1) ld.2 i m = some x → x ≤ 999 := fun x hx => dng_lt hW.vok hok hx
          have hl9 : bd.2.2 i ≤ 9 := (hB.2.2 i (by omega)).2.2.2.2
          refine go_istore_n (i := 3) (pc := 45) dX11_drawsOver_45 rfl (by decide) ?_
          refine go_iload_n (i := 3) (pc := 46) dX11_drawsOver_46 rfl rfl ?_
          refine go_bipush (-2) (pc := 47) dX11_drawsOver_47 (by decide) ?_
          refine go_icmp_eq 70 (pc := 49) dX11_drawsOver_49 (by decide) (fun h49 => ?_) (fun h49 => ?_)
          · rw [dI_n hdl] at h49
            have es : drw (vOf bd sk xs ld.1) ld.2 m (i + 1) = false := by rw [drw, hno, h49]; simp
            refine go_iincN (pc := 70) dX11_drawsOver_70 rfl (by decide) ?_
            refine go_goto 2 (pc := 73) dX11_drawsOver_73 (by decide) ?_
            refine go_drop [0, 1, 2] rfl ?_
            exact ih (bd.1 - (i + 1)) (by omega) (i + 1) rfl _ (by omega) hC2 hF2 es
          · rw [dI_n hdl] at h49
            obtain ⟨x, hx⟩ : ∃ x, dng (vOf bd sk xs ld.1) ld.2 i m = some x := by { cases hd : dng (vOf bd sk xs ld.1) ld.2 i m with | none => exact absurd hd h49 | some x => exact ⟨x, rfl⟩ }
            have hx9 := hdl x hx
            rw [hx]
            refine go_aload_n (i := 0) (pc := 52) dX11_drawsOver_52 rfl rfl ?_
            refine go_getr2 fl_X11_42 (pc := 53) dX11_drawsOver_53 (by first | rfl | (apply zL_ci <;> assumption) | (apply zR_ci <;> assumption)) (by first | rfl | (apply zL_in <;> first | assumption | decide) | (apply zR_in <;> first | assumption | decide)) (by first | rfl | (apply zL_fr0 <;> assumption) | (apply zL_fr1 <;> assumption) | (apply zR_fr0 <;> assumption) | (apply zR_fr1 <;> assumption) | (apply zR_fr2 <;> assumption) | (apply zR_fr3 <;> assumption)) ?_
            refine go_aload_n (i := 0) (pc := 56) dX11_drawsOver_56 rfl rfl ?_
            refine go_getr2 fl_X11_49 (pc := 57) dX11_drawsOver_57 (by first | rfl | (apply zL_ci <;> assumption) | (apply zR_ci <;> assumption)) (by first | rfl | (apply zL_in <;> first | assumption | decide) | (apply zR_in <;> first | assumption | decide)) (by first | rfl | (apply zL_fr0 <;> assumption) | (apply zL_fr1 <;> assumption) | (apply zR_fr0 <;> assumption) | (apply zR_fr1 <;> assumption) | (apply zR_fr2 <;> assumption) | (apply zR_fr3 <;> assumption)) ?_
            refine go_iload_n (i := 2) (pc := 60) dX11_drawsOver_60 rfl rfl ?_
            refine go_callV ml_X11_340 mt_X1_gain (pc := 61) dX11_drawsOver_61 (c_X1_gain hW2 (by omega : i < bd.1)) (by first | rfl | (apply zL_cq <;> assumption) | (apply zR_cq <;> assumption)) rfl (by first | rfl | (apply zL_in <;> first | assumption | decide) | (apply zR_in <;> first | assumption | decide)) (by decide) (by decide) rfl rfl (Nat.le_of_ble_eq_true rfl) (fun r σ' hp => ?_)
            obtain ⟨rfl, hσ⟩ := hp
            rw [hσ]
            clear hσ σ'
            dsimp only [zRet]
            refine go_iload_n (i := 3) (pc := 64) dX11_drawsOver_64 rfl rfl ?_
            refine go_icmp_le 70 (pc := 65) dX11_drawsOver_65 (by decide) (fun h65 => ?_) (fun h65 => ?_)
            · rw [dI, zi_leN (by omega), gI_toInt (V := vOf bd sk xs ld.1) (c := i) hl9 hok.2.2.2.2.1 hok.2.2.2.2.2.1] at h65
              have es : drw (vOf bd sk xs ld.1) ld.2 m (i + 1) = false := by rw [drw, hno, hx]; simp; omega
              refine go_iincN (pc := 70) dX11_drawsOver_70 rfl (by decide) ?_
              refine go_goto 2 (pc := 73) dX11_drawsOver_73 (by decide) ?_
              refine go_drop [0, 1, 2] rfl ?_
              exact ih (bd.1 - (i + 1)) (by omega) (i + 1) rfl _ (by omega) hC2 hF2 es
            · rw [dI, zi_leN (by omega), gI_toInt (V := vOf bd sk xs ld.1) (c := i) hl9 hok.2.2.2.2.1 hok.2.2.2.2.2.1] at h65
              have es : drw (vOf bd sk xs ld.1) ld.2 m (i + 1) = true := by rw [drw, hno, hx, decide_eq_true (p := vK (vOf bd sk xs ld.1) i ≤ 2) h22]; simp; omega
              have et := drw_mono es (bd.1 - (i + 1))
              rw [show i + 1 + (bd.1 - (i + 1)) = bd.1 by omega] at et
              refine go_iconst (nI 1) (pc := 68) dX11_drawsOver_68 (by decide) ?_
              refine go_zreturn (pc := 69) dX11_drawsOver_69 rfl rfl ?_
              exact ⟨by rw [et]; rfl, hC2, hF2⟩
        · first | rw [nI_leI (by omega) (by omega)] at h22 | rw [zi_leN (by omega)] at h22 | rw [zi_Nle (by omega)] at h22 | rw [zi_le] at h22
          have es : drw (vOf bd sk xs ld.1) ld.2 m (i + 1) = false := by rw [drw, hno, decide_eq_false (p := vK (vOf bd sk xs ld.1) i ≤ 2) h22]; rfl
          have hC2 := hCt
          have hF2 := hF
          refine go_goto 70 (pc := 25) dX11_drawsOver_25 (by decide) ?_
          refine go_iincN (pc := 70) dX11_drawsOver_70 rfl (by decide) ?_
          refine go_goto 2 (pc := 73) dX11_drawsOver_73 (by decide) ?_
          refine go_drop [0, 1, 2] rfl ?_
          exact ih (bd.1 - (i + 1)) (by omega) (i + 1) rfl _ (by omega) hC2 hF2 es
  refine go_iconst (nI 0) (pc := 0) dX11_drawsOver_0 (by decide) ?_
  refine go_istore_n (i := 2) (pc := 1) dX11_drawsOver_1 rfl (by decide) ?_
  exact loop 0 _ (by omega) hC Fr33.rf rfl

theorem c_X11_walls {E : zE} {σ : zT} {tx : Nat × (Nat → Nat)} {bd : Nat × (Nat → Nat) × (Nat → Nat)} {sk : Nat × (Nat → Nat)} {tw : Nat × (Nat → Nat) × (Nat → Nat)} {xs : List Nat} {ld : Nat × (Nat → Nat)} {pa sh : Nat × (Nat → Nat → Nat)} {ru : Nat × (Nat → Nat) × (Nat → Nat)} {to : Nat × (Nat → Int64)} (hC : ClsIs σ tx bd sk tw xs ld pa sh ru to) : CalM E 5 yX11_walls cX11_walls 3 (some .int) [.ref (zA E 0 0)] σ (fun r σ' => r = some (.int (nI (bcn (wal (vOf bd sk xs ld.1) ld.2 ld.1)))) ∧ ClsIs σ' tx bd sk tw xs ld pa sh ru (1, ln1 (lN (wal (vOf bd sk xs ld.1) ld.2 ld.1))) ∧ Fr33 σ σ') := by
  refine cal_of_go (own := RX11) rfl (by decide +kernel) (Nat.le_of_ble_eq_true rfl) ?_
  have hL := hC.2.2.2.2.2.1
  have hn := hL.b
  have hok := hL.1
  have hB0 := hC.2.2.1
  have hnc := hB0.1
  have loop : ∀ (i : Nat) (τ : zT), i ≤ ld.1 → (ClsIs τ tx bd sk tw xs ld pa sh ru to) → (Fr33 σ τ) → GoM E 5 RX11 cX11_walls 3 (some .int) (fun r σ' => r = some (.int (nI (bcn (wal (vOf bd sk xs ld.1) ld.2 ld.1)))) ∧ ClsIs σ' tx bd sk tw xs ld pa sh ru (1, ln1 (lN (wal (vOf bd sk xs ld.1) ld.2 ld.1))) ∧ Fr33 σ σ') τ 4 [(0, .ref (zA E 0 0)), (1, .int (nI (wal (vOf bd sk xs ld.1) ld.2 i))), (2, .int (nI i))] [] := by
    intro i
    induction hj : ld.1 - i using Nat.strongRecOn generalizing i with
    | ind z ih =>
      intro τ hi hCt hF
      have hbl : wal (vOf bd sk xs ld.1) ld.2 i < 2 ^ i := bits_lt (b := fun m => drw (vOf bd sk xs ld.1) ld.2 m (vC (vOf bd sk xs ld.1)) = true) i
      have hpw : 2 ^ i ≤ 2 ^ 12 := Nat.pow_le_pow_right (by decide) (by omega)
      refine go_iload_n (i := 2) (pc := 4) dX11_walls_4 rfl rfl ?_
      refine go_aload_n (i := 0) (pc := 5) dX11_walls_5 rfl rfl ?_
      refine go_getr2 fl_X11_49 (pc := 6) dX11_walls_6 (by first | rfl | (apply zL_ci <;> assumption) | (apply zR_ci <;> assumption)) (by first | rfl | (apply zL_in <;> first | assumption | decide) | (apply zR_in <;> first | assumption | decide)) (by first | rfl | (apply zL_fr0 <;> assumption) | (apply zL_fr1 <;> assumption) | (apply zR_fr0 <;> assumption) | (apply zR_fr1 <;> assumption) | (apply zR_fr2 <;> assumption) | (apply zR_fr3 <;> assumption)) ?_
      refine go_callV ml_X11_127 mt_X2_miles (pc := 9) dX11_walls_9 (c_X2_miles rfl hCt.2.2.2.2.2.1) (by first | rfl | (apply zL_cq <;> assumption) | (apply zR_cq <;> assumption)) rfl (by first | rfl | (apply zL_in <;> first | assumption | decide) | (apply zR_in <;> first | assumption | decide)) (by decide) (by decide) rfl rfl (Nat.le_of_ble_eq_true rfl) (fun r σ' hp => ?_)
      obtain ⟨rfl, hσ⟩ := hp
      rw [hσ]
      clear hσ σ'
      dsimp only [zRet]
      refine go_icmp_ge 35 (pc := 12) dX11_walls_12 (by decide) (fun h12 => ?_) (fun h12 => ?_)
      · first | rw [nI_leI (by omega) (by omega)] at h12 | rw [zi_leN (by omega)] at h12 | rw [zi_Nle (by omega)] at h12 | rw [zi_le] at h12
        have ei : i = ld.1 := by omega
        subst ei
        refine go_aload_n (i := 0) (pc := 35) dX11_walls_35 rfl rfl ?_
        refine go_getr2 fl_X11_83 (pc := 36) dX11_walls_36 (by first | rfl | (apply zL_ci <;> assumption) | (apply zR_ci <;> assumption)) (by first | rfl | (apply zL_in <;> first | assumption | decide) | (apply zR_in <;> first | assumption | decide)) (by first | rfl | (apply zL_fr0 <;> assumption) | (apply zL_fr1 <;> assumption) | (apply zR_fr0 <;> assumption) | (apply zR_fr1 <;> assumption) | (apply zR_fr2 <;> assumption) | (apply zR_fr3 <;> assumption)) ?_
        refine go_iload_n (i := 1) (pc := 39) dX11_walls_39 rfl rfl ?_
        refine go_i2l (pc := 40) dX11_walls_40 ?_
        rw [nI_l (by omega)]
        refine go_callV ml_X11_300 mt_X9_one (pc := 41) dX11_walls_41 (c_X9_one) (by first | rfl | (apply zL_cq <;> assumption) | (apply zR_cq <;> assumption)) rfl (by first | rfl | (apply zL_in <;> first | assumption | decide) | (apply zR_in <;> first | assumption | decide)) (by decide) (by decide) rfl rfl (Nat.le_of_ble_eq_true rfl) (fun r σ' hp => ?_)
        obtain ⟨rfl, hT4, hf4⟩ := hp
        dsimp only [zRet]
        refine go_iload_n (i := 1) (pc := 44) dX11_walls_44 rfl rfl ?_
        refine go_callS ml_X11_271 mt_J6_bitCount_0f7a4 (pc := 45) dX11_walls_45 (c_bc (by omega)) (by decide) (by decide) rfl rfl (Nat.le_of_ble_eq_true rfl) (fun r σ' hp => ?_)
        obtain ⟨rfl, hσ⟩ := hp
        rw [hσ]
        clear hσ σ'
        dsimp only [zRet]
        refine go_ireturn (pc := 48) dX11_walls_48 rfl ?_
        exact ⟨rfl, hCt.setTo (to' := (1, _)) hf4 hT4, hF.tr (Fr33.of hf4 (by simp))⟩
      · first | rw [nI_leI (by omega) (by omega)] at h12 | rw [zi_leN (by omega)] at h12 | rw [zi_Nle (by omega)] at h12 | rw [zi_le] at h12
        refine go_aload_n (i := 0) (pc := 15) dX11_walls_15 rfl rfl ?_
        refine go_iload_n (i := 2) (pc := 16) dX11_walls_16 rfl rfl ?_
        refine go_callV ml_X11_337 mt_X11_drawsOver (pc := 17) dX11_walls_17 (c_X11_drawsOver hCt (by omega)) (by first | rfl | (apply zL_cq <;> assumption) | (apply zR_cq <;> assumption)) rfl (by first | rfl | (apply zL_in <;> first | assumption | decide) | (apply zR_in <;> first | assumption | decide)) (by decide) (by decide) rfl rfl (Nat.le_of_ble_eq_true rfl) (fun r σ' hp => ?_)
        obtain ⟨rfl, hC2, hF2⟩ := hp
        dsimp only [zRet]
        have hF3 := hF.tr hF2
        refine go_if_eq 29 (pc := 20) dX11_walls_20 (by decide) (fun h20 => ?_) (fun h20 => ?_)
        · rw [zb_0] at h20
          have es : wal (vOf bd sk xs ld.1) ld.2 (i + 1) = wal (vOf bd sk xs ld.1) ld.2 i := by rw [wal, sumN, if_neg (by rw [show vC (vOf bd sk xs ld.1) = bd.1 from rfl, h20]; decide)]; rfl
          refine go_iincN (pc := 29) dX11_walls_29 rfl (by decide) ?_
          refine go_goto 4 (pc := 32) dX11_walls_32 (by decide) ?_
          rw [← es]
          exact ih (ld.1 - (i + 1)) (by omega) (i + 1) rfl _ (by omega) hC2 hF3
        · rw [zb_0] at h20
          have es : wal (vOf bd sk xs ld.1) ld.2 (i + 1) = wal (vOf bd sk xs ld.1) ld.2 i + 2 ^ i := by rw [wal, sumN, if_pos (by rw [show vC (vOf bd sk xs ld.1) = bd.1 from rfl]; simpa using h20)]; rfl
          refine go_iload_n (i := 1) (pc := 23) dX11_walls_23 rfl rfl ?_
          refine go_iconst (nI 1) (pc := 24) dX11_walls_24 (by decide) ?_
          refine go_iload_n (i := 2) (pc := 25) dX11_walls_25 rfl rfl ?_
          refine go_ishl (pc := 26) dX11_walls_26 ?_
          refine go_ior (pc := 27) dX11_walls_27 ?_
          rw [zor2 (a := wal (vOf bd sk xs ld.1) ld.2 i) hbl (by omega)]
          refine go_istore_n (i := 1) (pc := 28) dX11_walls_28 rfl (by decide) ?_
          refine go_iincN (pc := 29) dX11_walls_29 rfl (by decide) ?_
          refine go_goto 4 (pc := 32) dX11_walls_32 (by decide) ?_
          rw [← es]
          exact ih (ld.1 - (i + 1)) (by omega) (i + 1) rfl _ (by omega) hC2 hF3
  refine go_iconst (nI 0) (pc := 0) dX11_walls_0 (by decide) ?_
  refine go_istore_n (i := 1) (pc := 1) dX11_walls_1 rfl (by decide) ?_
  refine go_iconst (nI 0) (pc := 2) dX11_walls_2 (by decide) ?_
  refine go_istore_n (i := 2) (pc := 3) dX11_walls_3 rfl (by decide) ?_
  exact loop 0 _ (by omega) hC Fr33.rf

theorem c_X11_fitting {E : zE} {σ : zT} {tx : Nat × (Nat → Nat)} {bd : Nat × (Nat → Nat) × (Nat → Nat)} {sk : Nat × (Nat → Nat)} {tw : Nat × (Nat → Nat) × (Nat → Nat)} {xs : List Nat} {ld : Nat × (Nat → Nat)} {pa sh : Nat × (Nat → Nat → Nat)} {ru : Nat × (Nat → Nat) × (Nat → Nat)} {to : Nat × (Nat → Int64)} (hC : ClsIs σ tx bd sk tw xs ld pa sh ru to) : CalM E 5 yX11_fitting cX11_fitting 4 (some .int) [.ref (zA E 0 0)] σ (fun r σ' => r = some (.int (nI (fitB (vOf bd sk xs ld.1) ld.2 ru bd.1))) ∧ ClsIs σ' tx bd sk tw xs ld pa sh ru to ∧ Fr33 σ σ') := by
  refine cal_of_go (own := RX11) rfl (by decide +kernel) (Nat.le_of_ble_eq_true rfl) ?_
  have hL := hC.2.2.2.2.2.1
  have hn := hL.b
  have hok := hL.1
  have hB0 := hC.2.2.1
  have hnc := hB0.1
  have loop : ∀ (i : Nat) (τ : zT), i ≤ bd.1 → (ClsIs τ tx bd sk tw xs ld pa sh ru to) → (Fr33 σ τ) → GoM E 5 RX11 cX11_fitting 4 (some .int) (fun r σ' => r = some (.int (nI (fitB (vOf bd sk xs ld.1) ld.2 ru bd.1))) ∧ ClsIs σ' tx bd sk tw xs ld pa sh ru to ∧ Fr33 σ σ') τ 4 [(0, .ref (zA E 0 0)), (1, .int (nI (fitB (vOf bd sk xs ld.1) ld.2 ru i))), (2, .int (nI i))] [] := by
    intro i
    induction hj : bd.1 - i using Nat.strongRecOn generalizing i with
    | ind z ih =>
      intro τ hi hCt hF
      obtain ⟨kr, hkr, hz, hR14, hW⟩ := hCt.w (kl := 6) rfl hCt.2.2.2.2.2.1
      have hB := hCt.2.2.1
      have hbl : fitB (vOf bd sk xs ld.1) ld.2 ru i < 2 ^ i := bits_lt (b := fun c => fitA ru.2.1 ru.2.2 (vK (vOf bd sk xs ld.1) c) (vL (vOf bd sk xs ld.1) c) (gos (vOf bd sk xs ld.1) ld.2 c).isSome ru.1 = true) i
      refine go_iload_n (i := 2) (pc := 4) dX11_fitting_4 rfl rfl ?_
      refine go_aload_n (i := 0) (pc := 5) dX11_fitting_5 rfl rfl ?_
      refine go_getr2 fl_X11_19 (pc := 6) dX11_fitting_6 (by first | rfl | (apply zL_ci <;> assumption) | (apply zR_ci <;> assumption)) (by first | rfl | (apply zL_in <;> first | assumption | decide) | (apply zR_in <;> first | assumption | decide)) (by first | rfl | (apply zL_fr0 <;> assumption) | (apply zL_fr1 <;> assumption) | (apply zR_fr0 <;> assumption) | (apply zR_fr1 <;> assumption) | (apply zR_fr2 <;> assumption) | (apply zR_fr3 <;> assumption)) ?_
      refine go_callV ml_X11_304 mt_X0_size (pc := 9) dX11_fitting_9 (c_X0_size hB) (by first | rfl | (apply zL_cq <;> assumption) | (apply zR_cq <;> assumption)) rfl (by first | rfl | (apply zL_in <;> first | assumption | decide) | (apply zR_in <;> first | assumption | decide)) (by decide) (by decide) rfl rfl (Nat.le_of_ble_eq_true rfl) (fun r σ' hp => ?_)
      obtain ⟨rfl, hσ⟩ := hp
      rw [hσ]
      clear hσ σ'
      dsimp only [zRet]
      refine go_icmp_ge 80 (pc := 12) dX11_fitting_12 (by decide) (fun h12 => ?_) (fun h12 => ?_)
      · first | rw [nI_leI (by omega) (by omega)] at h12 | rw [zi_leN (by omega)] at h12 | rw [zi_Nle (by omega)] at h12 | rw [zi_le] at h12
        have ei : i = bd.1 := by omega
        subst ei
        refine go_iload_n (i := 1) (pc := 80) dX11_fitting_80 rfl rfl ?_
        refine go_ireturn (pc := 81) dX11_fitting_81 rfl ?_
        exact ⟨rfl, hCt, hF⟩
      · first | rw [nI_leI (by omega) (by omega)] at h12 | rw [zi_leN (by omega)] at h12 | rw [zi_Nle (by omega)] at h12 | rw [zi_le] at h12
        refine go_aload_n (i := 0) (pc := 15) dX11_fitting_15 rfl rfl ?_
        refine go_getr2 fl_X11_42 (pc := 16) dX11_fitting_16 (by first | rfl | (apply zL_ci <;> assumption) | (apply zR_ci <;> assumption)) (by first | rfl | (apply zL_in <;> first | assumption | decide) | (apply zR_in <;> first | assumption | decide)) (by first | rfl | (apply zL_fr0 <;> assumption) | (apply zL_fr1 <;> assumption) | (apply zR_fr0 <;> assumption) | (apply zR_fr1 <;> assumption) | (apply zR_fr2 <;> assumption) | (apply zR_fr3 <;> assumption)) ?_
        refine go_aload_n (i := 0) (pc := 19) dX11_fitting_19 rfl rfl ?_
        refine go_getR fl_X11_97 (pc := 20) dX11_fitting_20 rfl ?_
        rw [hR14]
        refine go_aload_n (i := 0) (pc := 23) dX11_fitting_23 rfl rfl ?_
        refine go_getr2 fl_X11_49 (pc := 24) dX11_fitting_24 (by first | rfl | (apply zL_ci <;> assumption) | (apply zR_ci <;> assumption)) (by first | rfl | (apply zL_in <;> first | assumption | decide) | (apply zR_in <;> first | assumption | decide)) (by first | rfl | (apply zL_fr0 <;> assumption) | (apply zL_fr1 <;> assumption) | (apply zR_fr0 <;> assumption) | (apply zR_fr1 <;> assumption) | (apply zR_fr2 <;> assumption) | (apply zR_fr3 <;> assumption)) ?_
        refine go_iload_n (i := 2) (pc := 27) dX11_fitting_27 rfl rfl ?_
        refine go_callV ml_X11_166 mt_X1_goal (pc := 28) dX11_fitting_28 (c_X1_goal hW (by omega : i < bd.1)) (by first | rfl | (apply zL_cq <;> assumption) | (apply zR_cq <;> assumption)) rfl (by first | rfl | (apply zL_in <;> first | assumption | decide) | (apply zR_in <;> first | assumption | decide)) (by decide) (by decide) rfl rfl (Nat.le_of_ble_eq_true rfl) (fun r σ' hp => ?_)
        obtain ⟨rfl, hD, hW2, hf, hf5⟩ := hp
        dsimp only [zRet]
        have hC2 := hCt.look hz hR14 hf (by simp) rfl hW2
        have hF2 := hF.tr (Fr33.of hf (by simp; omega))
        have hB2 := hC2.2.2.1
        have hk4 := (hB2.2.2 i (by omega)).2.2
        have hV := hW.vok
        refine go_iconst (-1) (pc := 31) dX11_fitting_31 (by decide) ?_
        refine go_icmp_eq 39 (pc := 32) dX11_fitting_32 (by decide) (fun h32 => ?_) (fun h32 => ?_)
        · rw [gM_n (fun q hq => by have h9 : q < ld.1 := gos_lt hV hok hq; omega)] at h32
          obtain ⟨gb, hgb, hbz⟩ : ∃ b, (gos (vOf bd sk xs ld.1) ld.2 i).isSome = b ∧ nI 0 = zb b := ⟨false, by rw [h32]; rfl, rfl⟩
          refine go_iconst (nI 0) (pc := 39) dX11_fitting_39 (by decide) ?_
          rw [hbz]
          refine go_istore_n (i := 3) (pc := 40) dX11_fitting_40 rfl (by decide) ?_
          refine go_aload_n (i := 0) (pc := 41) dX11_fitting_41 rfl rfl ?_
          refine go_getr2 fl_X11_76 (pc := 42) dX11_fitting_42 (by first | rfl | (apply zL_ci <;> assumption) | (apply zR_ci <;> assumption)) (by first | rfl | (apply zL_in <;> first | assumption | decide) | (apply zR_in <;> first | assumption | decide)) (by first | rfl | (apply zL_fr0 <;> assumption) | (apply zL_fr1 <;> assumption) | (apply zR_fr0 <;> assumption) | (apply zR_fr1 <;> assumption) | (apply zR_fr2 <;> assumption) | (apply zR_fr3 <;> assumption)) ?_
          refine go_aload_n (i := 0) (pc := 45) dX11_fitting_45 rfl rfl ?_
          refine go_getr2 fl_X11_19 (pc := 46) dX11_fitting_46 (by first | rfl | (apply zL_ci <;> assumption) | (apply zR_ci <;> assumption)) (by first | rfl | (apply zL_in <;> first | assumption | decide) | (apply zR_in <;> first | assumption | decide)) (by first | rfl | (apply zL_fr0 <;> assumption) | (apply zL_fr1 <;> assumption) | (apply zR_fr0 <;> assumption) | (apply zR_fr1 <;> assumption) | (apply zR_fr2 <;> assumption) | (apply zR_fr3 <;> assumption)) ?_
          refine go_iload_n (i := 2) (pc := 49) dX11_fitting_49 rfl rfl ?_
          refine go_callV ml_X11_160 mt_X0_kindOf (pc := 50) dX11_fitting_50 (c_X0_kindOf hB2 (by omega)) (by first | rfl | (apply zL_cq <;> assumption) | (apply zR_cq <;> assumption)) rfl (by first | rfl | (apply zL_in <;> first | assumption | decide) | (apply zR_in <;> first | assumption | decide)) (by decide) (by decide) rfl rfl (Nat.le_of_ble_eq_true rfl) (fun r σ' hp => ?_)
          obtain ⟨rfl, hσ⟩ := hp
          rw [hσ]
          clear hσ σ'
          dsimp only [zRet]
          refine go_aload_n (i := 0) (pc := 53) dX11_fitting_53 rfl rfl ?_
          refine go_getr2 fl_X11_19 (pc := 54) dX11_fitting_54 (by first | rfl | (apply zL_ci <;> assumption) | (apply zR_ci <;> assumption)) (by first | rfl | (apply zL_in <;> first | assumption | decide) | (apply zR_in <;> first | assumption | decide)) (by first | rfl | (apply zL_fr0 <;> assumption) | (apply zL_fr1 <;> assumption) | (apply zR_fr0 <;> assumption) | (apply zR_fr1 <;> assumption) | (apply zR_fr2 <;> assumption) | (apply zR_fr3 <;> assumption)) ?_
          refine go_iload_n (i := 2) (pc := 57) dX11_fitting_57 rfl rfl ?_
          refine go_callV ml_X11_163 mt_X0_loadOf (pc := 58) dX11_fitting_58 (c_X0_loadOf hB2 (by omega)) (by first | rfl | (apply zL_cq <;> assumption) | (apply zR_cq <;> assumption)) rfl (by first | rfl | (apply zL_in <;> first | assumption | decide) | (apply zR_in <;> first | assumption | decide)) (by decide) (by decide) rfl rfl (Nat.le_of_ble_eq_true rfl) (fun r σ' hp => ?_)
          obtain ⟨rfl, hσ⟩ := hp
          rw [hσ]
          clear hσ σ'
          dsimp only [zRet]
          refine go_iload_n (i := 3) (pc := 61) dX11_fitting_61 rfl rfl ?_
          refine go_callV ml_X11_382 mt_X5_allow (pc := 62) dX11_fitting_62 (c_X5_allow hC2.2.2.2.2.2.2.2.2.1 (by omega) (by omega)) (by first | rfl | (apply zL_cq <;> assumption) | (apply zR_cq <;> assumption)) rfl (by first | rfl | (apply zL_in <;> first | assumption | decide) | (apply zR_in <;> first | assumption | decide)) (by decide) (by decide) rfl rfl (Nat.le_of_ble_eq_true rfl) (fun r σ' hp => ?_)
          obtain ⟨rfl, hσ⟩ := hp
          rw [hσ]
          clear hσ σ'
          dsimp only [zRet]
          refine go_if_eq 74 (pc := 65) dX11_fitting_65 (by decide) (fun h65 => ?_) (fun h65 => ?_)
          · rw [zb_0] at h65
            have es : fitB (vOf bd sk xs ld.1) ld.2 ru (i + 1) = fitB (vOf bd sk xs ld.1) ld.2 ru i := by rw [fitB, sumN, if_neg (by rw [hgb, show vK (vOf bd sk xs ld.1) i = bd.2.1 i from rfl, show vL (vOf bd sk xs ld.1) i = bd.2.2 i from rfl, h65]; decide)]; rfl
            refine go_iincN (pc := 74) dX11_fitting_74 rfl (by decide) ?_
            refine go_goto 4 (pc := 77) dX11_fitting_77 (by decide) ?_
            refine go_drop [0, 1, 2] rfl ?_
            rw [← es]
            exact ih (bd.1 - (i + 1)) (by omega) (i + 1) rfl _ (by omega) hC2 hF2
          · rw [zb_0] at h65
            have es : fitB (vOf bd sk xs ld.1) ld.2 ru (i + 1) = fitB (vOf bd sk xs ld.1) ld.2 ru i + 2 ^ i := by rw [fitB, sumN, if_pos (by rw [hgb, show vK (vOf bd sk xs ld.1) i = bd.2.1 i from rfl, show vL (vOf bd sk xs ld.1) i = bd.2.2 i from rfl]; simpa using h65)]; rfl
            refine go_iload_n (i := 1) (pc := 68) dX11_fitting_68 rfl rfl ?_
            refine go_iconst (nI 1) (pc := 69) dX11_fitting_69 (by decide) ?_
            refine go_iload_n (i := 2) (pc := 70) dX11_fitting_70 rfl rfl ?_
            refine go_ishl (pc := 71) dX11_fitting_71 ?_
            refine go_ior (pc := 72) dX11_fitting_72 ?_
            rw [zor2 (a := fitB (vOf bd sk xs ld.1) ld.2 ru i) hbl (by omega)]
            refine go_istore_n (i := 1) (pc := 73) dX11_fitting_73 rfl (by decide) ?_
            refine go_iincN (pc := 74) dX11_fitting_74 rfl (by decide) ?_
            refine go_goto 4 (pc := 77) dX11_fitting_77 (by decide) ?_
            refine go_drop [0, 1, 2] rfl ?_
            rw [← es]
            exact ih (bd.1 - (i + 1)) (by omega) (i + 1) rfl _ (by omega) hC2 hF2
        · rw [gM_n (fun q hq => by have h9 : q < ld.1 := gos_lt hV hok hq; omega)] at h32
          obtain ⟨gb, hgb, hbz⟩ : ∃ b, (gos (vOf bd sk xs ld.1) ld.2 i).isSome = b ∧ nI 1 = zb b := ⟨true, by cases hd : gos (vOf bd sk xs ld.1) ld.2 i with
            | none => exact absurd hd h32
            | some x => rfl, rfl⟩
          refine go_iconst (nI 1) (pc := 35) dX11_fitting_35 (by decide) ?_
          rw [hbz]
          refine go_goto 40 (pc := 36) dX11_fitting_36 (by decide) ?_
          refine go_istore_n (i := 3) (pc := 40) dX11_fitting_40 rfl (by decide) ?_
          refine go_aload_n (i := 0) (pc := 41) dX11_fitting_41 rfl rfl ?_
          refine go_getr2 fl_X11_76 (pc := 42) dX11_fitting_42 (by first | rfl | (apply zL_ci <;> assumption) | (apply zR_ci <;> assumption)) (by first | rfl | (apply zL_in <;> first | assumption | decide) | (apply zR_in <;> first | assumption | decide)) (by first | rfl | (apply zL_fr0 <;> assumption) | (apply zL_fr1 <;> assumption) | (apply zR_fr0 <;> assumption) | (apply zR_fr1 <;> assumption) | (apply zR_fr2 <;> assumption) | (apply zR_fr3 <;> assumption)) ?_
          refine go_aload_n (i := 0) (pc := 45) dX11_fitting_45 rfl rfl ?_
          refine go_getr2 fl_X11_19 (pc := 46) dX11_fitting_46 (by first | rfl | (apply zL_ci <;> assumption) | (apply zR_ci <;> assumption)) (by first | rfl | (apply zL_in <;> first | assumption | decide) | (apply zR_in <;> first | assumption | decide)) (by first | rfl | (apply zL_fr0 <;> assumption) | (apply zL_fr1 <;> assumption) | (apply zR_fr0 <;> assumption) | (apply zR_fr1 <;> assumption) | (apply zR_fr2 <;> assumption) | (apply zR_fr3 <;> assumption)) ?_
          refine go_iload_n (i := 2) (pc := 49) dX11_fitting_49 rfl rfl ?_
          refine go_callV ml_X11_160 mt_X0_kindOf (pc := 50) dX11_fitting_50 (c_X0_kindOf hB2 (by omega)) (by first | rfl | (apply zL_cq <;> assumption) | (apply zR_cq <;> assumption)) rfl (by first | rfl | (apply zL_in <;> first | assumption | decide) | (apply zR_in <;> first | assumption | decide)) (by decide) (by decide) rfl rfl (Nat.le_of_ble_eq_true rfl) (fun r σ' hp => ?_)
          obtain ⟨rfl, hσ⟩ := hp
          rw [hσ]
          clear hσ σ'
          dsimp only [zRet]
          refine go_aload_n (i := 0) (pc := 53) dX11_fitting_53 rfl rfl ?_
          refine go_getr2 fl_X11_19 (pc := 54) dX11_fitting_54 (by first | rfl | (apply zL_ci <;> assumption) | (apply zR_ci <;> assumption)) (by first | rfl | (apply zL_in <;> first | assumption | decide) | (apply zR_in <;> first | assumption | decide)) (by first | rfl | (apply zL_fr0 <;> assumption) | (apply zL_fr1 <;> assumption) | (apply zR_fr0 <;> assumption) | (apply zR_fr1 <;> assumption) | (apply zR_fr2 <;> assumption) | (apply zR_fr3 <;> assumption)) ?_
          refine go_iload_n (i := 2) (pc := 57) dX11_fitting_57 rfl rfl ?_
          refine go_callV ml_X11_163 mt_X0_loadOf (pc := 58) dX11_fitting_58 (c_X0_loadOf hB2 (by omega)) (by first | rfl | (apply zL_cq <;> assumption) | (apply zR_cq <;> assumption)) rfl (by first | rfl | (apply zL_in <;> first | assumption | decide) | (apply zR_in <;> first | assumption | decide)) (by decide) (by decide) rfl rfl (Nat.le_of_ble_eq_true rfl) (fun r σ' hp => ?_)
          obtain ⟨rfl, hσ⟩ := hp
          rw [hσ]
          clear hσ σ'
          dsimp only [zRet]
          refine go_iload_n (i := 3) (pc := 61) dX11_fitting_61 rfl rfl ?_
          refine go_callV ml_X11_382 mt_X5_allow (pc := 62) dX11_fitting_62 (c_X5_allow hC2.2.2.2.2.2.2.2.2.1 (by omega) (by omega)) (by first | rfl | (apply zL_cq <;> assumption) | (apply zR_cq <;> assumption)) rfl (by first | rfl | (apply zL_in <;> first | assumption | decide) | (apply zR_in <;> first | assumption | decide)) (by decide) (by decide) rfl rfl (Nat.le_of_ble_eq_true rfl) (fun r σ' hp => ?_)
          obtain ⟨rfl, hσ⟩ := hp
          rw [hσ]
          clear hσ σ'
          dsimp only [zRet]
          refine go_if_eq 74 (pc := 65) dX11_fitting_65 (by decide) (fun h65 => ?_) (fun h65 => ?_)
          · rw [zb_0] at h65
            have es : fitB (vOf bd sk xs ld.1) ld.2 ru (i + 1) = fitB (vOf bd sk xs ld.1) ld.2 ru i := by rw [fitB, sumN, if_neg (by rw [hgb, show vK (vOf bd sk xs ld.1) i = bd.2.1 i from rfl, show vL (vOf bd sk xs ld.1) i = bd.2.2 i from rfl, h65]; decide)]; rfl
            refine go_iincN (pc := 74) dX11_fitting_74 rfl (by decide) ?_
            refine go_goto 4 (pc := 77) dX11_fitting_77 (by decide) ?_
            refine go_drop [0, 1, 2] rfl ?_
            rw [← es]
            exact ih (bd.1 - (i + 1)) (by omega) (i + 1) rfl _ (by omega) hC2 hF2
          · rw [zb_0] at h65
            have es : fitB (vOf bd sk xs ld.1) ld.2 ru (i + 1) = fitB (vOf bd sk xs ld.1) ld.2 ru i + 2 ^ i := by rw [fitB, sumN, if_pos (by rw [hgb, show vK (vOf bd sk xs ld.1) i = bd.2.1 i from rfl, show vL (vOf bd sk xs ld.1) i = bd.2.2 i from rfl]; simpa using h65)]; rfl
            refine go_iload_n (i := 1) (pc := 68) dX11_fitting_68 rfl rfl ?_
            refine go_iconst (nI 1) (pc := 69) dX11_fitting_69 (by decide) ?_
            refine go_iload_n (i := 2) (pc := 70) dX11_fitting_70 rfl rfl ?_
            refine go_ishl (pc := 71) dX11_fitting_71 ?_
            refine go_ior (pc := 72) dX11_fitting_72 ?_
            rw [zor2 (a := fitB (vOf bd sk xs ld.1) ld.2 ru i) hbl (by omega)]
            refine go_istore_n (i := 1) (pc := 73) dX11_fitting_73 rfl (by decide) ?_
            refine go_iincN (pc := 74) dX11_fitting_74 rfl (by decide) ?_
            refine go_goto 4 (pc := 77) dX11_fitting_77 (by decide) ?_
            refine go_drop [0, 1, 2] rfl ?_
            rw [← es]
            exact ih (bd.1 - (i + 1)) (by omega) (i + 1) rfl _ (by omega) hC2 hF2
  refine go_iconst (nI 0) (pc := 0) dX11_fitting_0 (by decide) ?_
  refine go_istore_n (i := 1) (pc := 1) dX11_fitting_1 rfl (by decide) ?_
  refine go_iconst (nI 0) (pc := 2) dX11_fitting_2 (by decide) ?_
  refine go_istore_n (i := 2) (pc := 3) dX11_fitting_3 rfl (by decide) ?_
  exact loop 0 _ (by omega) hC Fr33.rf

theorem loadsB_le {ld : Nat → Nat} {b n : Nat} (h : ∀ i, i < n → ld i ≤ 9) : loadsB ld b n ≤ n * 9 := sumN_le (fun i hi => by have := h i hi; split <;> omega)

theorem c_X11_fits {E : zE} {σ : zT} {tx : Nat × (Nat → Nat)} {bd : Nat × (Nat → Nat) × (Nat → Nat)} {sk : Nat × (Nat → Nat)} {tw : Nat × (Nat → Nat) × (Nat → Nat)} {xs : List Nat} {ld : Nat × (Nat → Nat)} {pa sh : Nat × (Nat → Nat → Nat)} {ru : Nat × (Nat → Nat) × (Nat → Nat)} {to : Nat × (Nat → Int64)} (hC : ClsIs σ tx bd sk tw xs ld pa sh ru to) : CalM E 6 yX11_fits cX11_fits 2 (some .int) [.ref (zA E 0 0)] σ (fun r σ' => r = some (.int (nI (fitB (vOf bd sk xs ld.1) ld.2 ru bd.1))) ∧ ClsIs σ' tx bd sk tw xs ld pa sh ru (2, ln2 (lN (bcn (fitB (vOf bd sk xs ld.1) ld.2 ru bd.1))) (lN (loadsB bd.2.2 (fitB (vOf bd sk xs ld.1) ld.2 ru bd.1) bd.1))) ∧ Fr33 σ σ') := by
  refine cal_of_go (own := RX11) rfl (by decide +kernel) (Nat.le_of_ble_eq_true rfl) ?_
  have hL := hC.2.2.2.2.2.1
  have hn := hL.b
  have hok := hL.1
  have hB0 := hC.2.2.1
  have hnc := hB0.1
  refine go_aload_n (i := 0) (pc := 0) dX11_fits_0 rfl rfl ?_
  refine go_callV ml_X11_376 mt_X11_fitting (pc := 1) dX11_fits_1 (c_X11_fitting hC) (by first | rfl | (apply zL_cq <;> assumption) | (apply zR_cq <;> assumption)) rfl (by first | rfl | (apply zL_in <;> first | assumption | decide) | (apply zR_in <;> first | assumption | decide)) (by decide) (by decide) rfl rfl (Nat.le_of_ble_eq_true rfl) (fun r σ' hp => ?_)
  obtain ⟨rfl, hC2, hF2⟩ := hp
  dsimp only [zRet]
  have hbl : fitB (vOf bd sk xs ld.1) ld.2 ru bd.1 < 2 ^ bd.1 := bits_lt (b := fun c => fitA ru.2.1 ru.2.2 (vK (vOf bd sk xs ld.1) c) (vL (vOf bd sk xs ld.1) c) (gos (vOf bd sk xs ld.1) ld.2 c).isSome ru.1 = true) bd.1
  have hpw : 2 ^ bd.1 ≤ 2 ^ 8 := Nat.pow_le_pow_right (by decide) hnc
  have hbc := bcn_le (fitB (vOf bd sk xs ld.1) ld.2 ru bd.1)
  refine go_istore_n (i := 1) (pc := 4) dX11_fits_4 rfl (by decide) ?_
  refine go_aload_n (i := 0) (pc := 5) dX11_fits_5 rfl rfl ?_
  refine go_getr2 fl_X11_83 (pc := 6) dX11_fits_6 (by first | rfl | (apply zL_ci <;> assumption) | (apply zR_ci <;> assumption)) (by first | rfl | (apply zL_in <;> first | assumption | decide) | (apply zR_in <;> first | assumption | decide)) (by first | rfl | (apply zL_fr0 <;> assumption) | (apply zL_fr1 <;> assumption) | (apply zR_fr0 <;> assumption) | (apply zR_fr1 <;> assumption) | (apply zR_fr2 <;> assumption) | (apply zR_fr3 <;> assumption)) ?_
  refine go_iload_n (i := 1) (pc := 9) dX11_fits_9 rfl rfl ?_
  refine go_callS ml_X11_271 mt_J6_bitCount_0f7a4 (pc := 10) dX11_fits_10 (c_bc (by omega)) (by decide) (by decide) rfl rfl (Nat.le_of_ble_eq_true rfl) (fun r σ' hp => ?_)
  obtain ⟨rfl, hσ⟩ := hp
  rw [hσ]
  clear hσ σ'
  dsimp only [zRet]
  refine go_i2l (pc := 13) dX11_fits_13 ?_
  rw [nI_l (by omega)]
  refine go_aload_n (i := 0) (pc := 14) dX11_fits_14 rfl rfl ?_
  refine go_getr2 fl_X11_19 (pc := 15) dX11_fits_15 (by first | rfl | (apply zL_ci <;> assumption) | (apply zR_ci <;> assumption)) (by first | rfl | (apply zL_in <;> first | assumption | decide) | (apply zR_in <;> first | assumption | decide)) (by first | rfl | (apply zL_fr0 <;> assumption) | (apply zL_fr1 <;> assumption) | (apply zR_fr0 <;> assumption) | (apply zR_fr1 <;> assumption) | (apply zR_fr2 <;> assumption) | (apply zR_fr3 <;> assumption)) ?_
  refine go_iload_n (i := 1) (pc := 18) dX11_fits_18 rfl rfl ?_
  refine go_callV ml_X11_379 mt_X0_loadsOf (pc := 19) dX11_fits_19 (c_X0_loadsOf hC2.2.2.1 (by omega)) (by first | rfl | (apply zL_cq <;> assumption) | (apply zR_cq <;> assumption)) rfl (by first | rfl | (apply zL_in <;> first | assumption | decide) | (apply zR_in <;> first | assumption | decide)) (by decide) (by decide) rfl rfl (Nat.le_of_ble_eq_true rfl) (fun r σ' hp => ?_)
  obtain ⟨rfl, hσ⟩ := hp
  rw [hσ]
  clear hσ σ'
  dsimp only [zRet]
  refine go_i2l (pc := 22) dX11_fits_22 ?_
  have hlb := loadsB_le (b := fitB (vOf bd sk xs ld.1) ld.2 ru bd.1) (fun i hi => (hB0.2.2 i hi).2.2.2.2)
  rw [nI_l (by omega)]
  refine go_callV ml_X11_223 mt_X9_two (pc := 23) dX11_fits_23 (c_X9_two) (by first | rfl | (apply zL_cq <;> assumption) | (apply zR_cq <;> assumption)) rfl (by first | rfl | (apply zL_in <;> first | assumption | decide) | (apply zR_in <;> first | assumption | decide)) (by decide) (by decide) rfl rfl (Nat.le_of_ble_eq_true rfl) (fun r σ' hp => ?_)
  obtain ⟨rfl, hT4, hf4⟩ := hp
  dsimp only [zRet]
  refine go_iload_n (i := 1) (pc := 26) dX11_fits_26 rfl rfl ?_
  refine go_ireturn (pc := 27) dX11_fits_27 rfl ?_
  exact ⟨rfl, hC2.setTo (to' := (2, _)) hf4 hT4, hF2.tr (Fr33.of hf4 (by simp))⟩

set_option maxRecDepth 4000 in
theorem c_X11_ask {E : zE} {σ : zT} {tx : Nat × (Nat → Nat)} {bd : Nat × (Nat → Nat) × (Nat → Nat)} {sk : Nat × (Nat → Nat)} {tw : Nat × (Nat → Nat) × (Nat → Nat)} {xs : List Nat} {ld : Nat × (Nat → Nat)} {pa sh : Nat × (Nat → Nat → Nat)} {ru : Nat × (Nat → Nat) × (Nat → Nat)} {to : Nat × (Nat → Int64)} (hC : ClsIs σ tx bd sk tw xs ld pa sh ru to) : CalM E 6 yX11_ask cX11_ask 8 (some .int) [.ref (zA E 0 0)] σ (fun r σ' => r = some (.int (if fitB (vOf bd sk xs ld.1) ld.2 ru bd.1 = 0 then -2 else nI (askL bd.2.2 (fitB (vOf bd sk xs ld.1) ld.2 ru bd.1) bd.1 9).1)) ∧ ClsIs σ' tx bd sk tw xs ld pa sh ru (if fitB (vOf bd sk xs ld.1) ld.2 ru bd.1 = 0 then to else (1, ln1 (lN (askL bd.2.2 (fitB (vOf bd sk xs ld.1) ld.2 ru bd.1) bd.1 9).2))) ∧ Fr33 σ σ') := by
  refine cal_of_go (own := RX11) rfl (by decide +kernel) (Nat.le_of_ble_eq_true rfl) ?_
  have hL := hC.2.2.2.2.2.1
  have hn := hL.b
  have hok := hL.1
  have hB0 := hC.2.2.1
  have hnc := hB0.1
  have hbl : fitB (vOf bd sk xs ld.1) ld.2 ru bd.1 < 2 ^ bd.1 := bits_lt (b := fun c => fitA ru.2.1 ru.2.2 (vK (vOf bd sk xs ld.1) c) (vL (vOf bd sk xs ld.1) c) (gos (vOf bd sk xs ld.1) ld.2 c).isSome ru.1 = true) bd.1
  have hpw : 2 ^ bd.1 ≤ 2 ^ 8 := Nat.pow_le_pow_right (by decide) hnc
  have hbc := bcn_le (fitB (vOf bd sk xs ld.1) ld.2 ru bd.1)
  have main : ¬ fitB (vOf bd sk xs ld.1) ld.2 ru bd.1 = 0 → ∀ τ : zT, ClsIs τ tx bd sk tw xs ld pa sh ru to → Fr33 σ τ → GoM E 6 RX11 cX11_ask 8 (some .int) (fun r σ' => r = some (.int (if fitB (vOf bd sk xs ld.1) ld.2 ru bd.1 = 0 then -2 else nI (askL bd.2.2 (fitB (vOf bd sk xs ld.1) ld.2 ru bd.1) bd.1 9).1)) ∧ ClsIs σ' tx bd sk tw xs ld pa sh ru (if fitB (vOf bd sk xs ld.1) ld.2 ru bd.1 = 0 then to else (1, ln1 (lN (askL bd.2.2 (fitB (vOf bd sk xs ld.1) ld.2 ru bd.1) bd.1 9).2))) ∧ Fr33 σ σ') τ 12 [(0, .ref (zA E 0 0)), (1, .int (nI (fitB (vOf bd sk xs ld.1) ld.2 ru bd.1)))] [] := by
    intro hne
    rw [if_neg hne, if_neg hne]
    have loop : ∀ (i : Nat) (τ : zT), i ≤ 9 → (ClsIs τ tx bd sk tw xs ld pa sh ru to) → (Fr33 σ τ) → GoM E 6 RX11 cX11_ask 8 (some .int) (fun r σ' => r = some (.int (nI (askL bd.2.2 (fitB (vOf bd sk xs ld.1) ld.2 ru bd.1) bd.1 9).1)) ∧ ClsIs σ' tx bd sk tw xs ld pa sh ru (1, ln1 (lN (askL bd.2.2 (fitB (vOf bd sk xs ld.1) ld.2 ru bd.1) bd.1 9).2)) ∧ Fr33 σ σ') τ 25 [(0, .ref (zA E 0 0)), (1, .int (nI (fitB (vOf bd sk xs ld.1) ld.2 ru bd.1))), (2, .int (nI (bcn (fitB (vOf bd sk xs ld.1) ld.2 ru bd.1)))), (3, .int (nI (askL bd.2.2 (fitB (vOf bd sk xs ld.1) ld.2 ru bd.1) bd.1 i).1)), (4, .int (nI (askL bd.2.2 (fitB (vOf bd sk xs ld.1) ld.2 ru bd.1) bd.1 i).2)), (5, .int (nI (i + 1)))] [] := by
      intro i
      induction hj : 9 - i using Nat.strongRecOn generalizing i with
      | ind z ih =>
        intro τ hi hCt hF
        have hab := askL_b bd.2.2 (fitB (vOf bd sk xs ld.1) ld.2 ru bd.1) bd.1 i
        have hba := bcn_and (fitB (vOf bd sk xs ld.1) ld.2 ru bd.1) (heavyB bd.2.2 (i + 1) bd.1)
        have haf := askF_le bd.2.2 (fitB (vOf bd sk xs ld.1) ld.2 ru bd.1) bd.1 (i + 1)
        have hand : fitB (vOf bd sk xs ld.1) ld.2 ru bd.1 &&& heavyB bd.2.2 (i + 1) bd.1 ≤ fitB (vOf bd sk xs ld.1) ld.2 ru bd.1 := Nat.and_le_left
        refine go_iload (pc := 25) dX11_ask_25 rfl ?_
        refine go_bipush (nI 9) (pc := 27) dX11_ask_27 (by decide) ?_
        refine go_icmp_gt 79 (pc := 29) dX11_ask_29 (by decide) (fun h29 => ?_) (fun h29 => ?_)
        · first | rw [nI_ltI (by omega) (by omega)] at h29 | rw [zi_ltN (by omega)] at h29 | rw [zi_Nlt (by omega)] at h29 | rw [zi_lt] at h29
          have ei : i = 9 := by omega
          subst ei
          refine go_aload_n (i := 0) (pc := 79) dX11_ask_79 rfl rfl ?_
          refine go_getr2 fl_X11_83 (pc := 80) dX11_ask_80 (by first | rfl | (apply zL_ci <;> assumption) | (apply zR_ci <;> assumption)) (by first | rfl | (apply zL_in <;> first | assumption | decide) | (apply zR_in <;> first | assumption | decide)) (by first | rfl | (apply zL_fr0 <;> assumption) | (apply zL_fr1 <;> assumption) | (apply zR_fr0 <;> assumption) | (apply zR_fr1 <;> assumption) | (apply zR_fr2 <;> assumption) | (apply zR_fr3 <;> assumption)) ?_
          refine go_iload (pc := 83) dX11_ask_83 rfl ?_
          refine go_i2l (pc := 85) dX11_ask_85 ?_
          rw [nI_l (by omega)]
          refine go_callV ml_X11_300 mt_X9_one (pc := 86) dX11_ask_86 (c_X9_one) (by first | rfl | (apply zL_cq <;> assumption) | (apply zR_cq <;> assumption)) rfl (by first | rfl | (apply zL_in <;> first | assumption | decide) | (apply zR_in <;> first | assumption | decide)) (by decide) (by decide) rfl rfl (Nat.le_of_ble_eq_true rfl) (fun r σ' hp => ?_)
          obtain ⟨rfl, hT4, hf4⟩ := hp
          dsimp only [zRet]
          refine go_iload_n (i := 3) (pc := 89) dX11_ask_89 rfl rfl ?_
          refine go_ireturn (pc := 90) dX11_ask_90 rfl ?_
          exact ⟨rfl, hCt.setTo (to' := (1, _)) hf4 hT4, hF.tr (Fr33.of hf4 (by simp))⟩
        · first | rw [nI_ltI (by omega) (by omega)] at h29 | rw [zi_ltN (by omega)] at h29 | rw [zi_Nlt (by omega)] at h29 | rw [zi_lt] at h29
          refine go_iload_n (i := 1) (pc := 32) dX11_ask_32 rfl rfl ?_
          refine go_aload_n (i := 0) (pc := 33) dX11_ask_33 rfl rfl ?_
          refine go_getr2 fl_X11_19 (pc := 34) dX11_ask_34 (by first | rfl | (apply zL_ci <;> assumption) | (apply zR_ci <;> assumption)) (by first | rfl | (apply zL_in <;> first | assumption | decide) | (apply zR_in <;> first | assumption | decide)) (by first | rfl | (apply zL_fr0 <;> assumption) | (apply zL_fr1 <;> assumption) | (apply zR_fr0 <;> assumption) | (apply zR_fr1 <;> assumption) | (apply zR_fr2 <;> assumption) | (apply zR_fr3 <;> assumption)) ?_
          refine go_iload (pc := 37) dX11_ask_37 rfl ?_
          refine go_callV ml_X11_386 mt_X0_heavy (pc := 39) dX11_ask_39 (c_X0_heavy hCt.2.2.1 (by omega)) (by first | rfl | (apply zL_cq <;> assumption) | (apply zR_cq <;> assumption)) rfl (by first | rfl | (apply zL_in <;> first | assumption | decide) | (apply zR_in <;> first | assumption | decide)) (by decide) (by decide) rfl rfl (Nat.le_of_ble_eq_true rfl) (fun r σ' hp => ?_)
          obtain ⟨rfl, hσ⟩ := hp
          rw [hσ]
          clear hσ σ'
          dsimp only [zRet]
          refine go_iand (pc := 42) dX11_ask_42 ?_
          rw [zandN]
          refine go_callS ml_X11_271 mt_J6_bitCount_0f7a4 (pc := 43) dX11_ask_43 (c_bc (by omega)) (by decide) (by decide) rfl rfl (Nat.le_of_ble_eq_true rfl) (fun r σ' hp => ?_)
          obtain ⟨rfl, hσ⟩ := hp
          rw [hσ]
          clear hσ σ'
          dsimp only [zRet]
          refine go_istore (pc := 46) dX11_ask_46 (by decide) ?_
          refine go_iload (pc := 48) dX11_ask_48 rfl ?_
          refine go_iload_n (i := 2) (pc := 50) dX11_ask_50 rfl rfl ?_
          refine go_iload (pc := 51) dX11_ask_51 rfl ?_
          first | with_reducible refine go_isubN (pc := 53) dX11_ask_53 (by omega) ?_ | refine go_isub (pc := 53) dX11_ask_53 ?_
          refine go_callS ml_X11_311 mt_J9_max_7cf53 (pc := 54) dX11_ask_54 (c_J9_maxN (by omega) (by omega)) (by decide) (by decide) rfl rfl (Nat.le_of_ble_eq_true rfl) (fun r σ' hp => ?_)
          obtain ⟨rfl, hσ⟩ := hp
          rw [hσ]
          clear hσ σ'
          dsimp only [zRet]
          rw [show max (bcn (fitB (vOf bd sk xs ld.1) ld.2 ru bd.1 &&& heavyB bd.2.2 (i + 1) bd.1)) (bcn (fitB (vOf bd sk xs ld.1) ld.2 ru bd.1) - bcn (fitB (vOf bd sk xs ld.1) ld.2 ru bd.1 &&& heavyB bd.2.2 (i + 1) bd.1)) = askF bd.2.2 (fitB (vOf bd sk xs ld.1) ld.2 ru bd.1) bd.1 (i + 1) from rfl]
          refine go_istore (pc := 57) dX11_ask_57 (by decide) ?_
          refine go_iload (pc := 59) dX11_ask_59 rfl ?_
          refine go_iload (pc := 61) dX11_ask_61 rfl ?_
          refine go_icmp_ge 73 (pc := 63) dX11_ask_63 (by decide) (fun h63 => ?_) (fun h63 => ?_)
          · first | rw [nI_leI (by omega) (by omega)] at h63 | rw [zi_leN (by omega)] at h63 | rw [zi_Nle (by omega)] at h63 | rw [zi_le] at h63
            have es : askL bd.2.2 (fitB (vOf bd sk xs ld.1) ld.2 ru bd.1) bd.1 (i + 1) = askL bd.2.2 (fitB (vOf bd sk xs ld.1) ld.2 ru bd.1) bd.1 i := by rw [askL, if_neg (by omega)]
            refine go_iincN (pc := 73) dX11_ask_73 rfl (by decide) ?_
            refine go_goto 25 (pc := 76) dX11_ask_76 (by decide) ?_
            refine go_drop [0, 1, 2, 3, 4, 5] rfl ?_
            have ih2 := ih (9 - (i + 1)) (by omega) (i + 1) rfl _ (by omega) hCt hF
            rw [es] at ih2
            exact ih2
          · first | rw [nI_leI (by omega) (by omega)] at h63 | rw [zi_leN (by omega)] at h63 | rw [zi_Nle (by omega)] at h63 | rw [zi_le] at h63
            have es : askL bd.2.2 (fitB (vOf bd sk xs ld.1) ld.2 ru bd.1) bd.1 (i + 1) = (i + 1, askF bd.2.2 (fitB (vOf bd sk xs ld.1) ld.2 ru bd.1) bd.1 (i + 1)) := by rw [askL, if_pos (by omega)]
            have e2 : nI (askF bd.2.2 (fitB (vOf bd sk xs ld.1) ld.2 ru bd.1) bd.1 (i + 1)) = nI (askL bd.2.2 (fitB (vOf bd sk xs ld.1) ld.2 ru bd.1) bd.1 (i + 1)).2 := by rw [es]
            have e3 : nI (i + 1) = nI (askL bd.2.2 (fitB (vOf bd sk xs ld.1) ld.2 ru bd.1) bd.1 (i + 1)).1 := by rw [es]
            refine go_iload (pc := 66) dX11_ask_66 rfl ?_
            refine go_istore (pc := 68) dX11_ask_68 (by decide) ?_
            refine go_iload (pc := 70) dX11_ask_70 rfl ?_
            refine go_istore_n (i := 3) (pc := 72) dX11_ask_72 rfl (by decide) ?_
            refine go_iincN (pc := 73) dX11_ask_73 rfl (by decide) ?_
            refine go_goto 25 (pc := 76) dX11_ask_76 (by decide) ?_
            refine go_drop [0, 1, 2, 3, 4, 5] rfl ?_
            have ih2 := ih (9 - (i + 1)) (by omega) (i + 1) rfl _ (by omega) hCt hF
            rw [es] at ih2
            exact ih2
    intro τ hCt hF
    refine go_iload_n (i := 1) (pc := 12) dX11_ask_12 rfl rfl ?_
    refine go_callS ml_X11_271 mt_J6_bitCount_0f7a4 (pc := 13) dX11_ask_13 (c_bc (by omega)) (by decide) (by decide) rfl rfl (Nat.le_of_ble_eq_true rfl) (fun r σ' hp => ?_)
    obtain ⟨rfl, hσ⟩ := hp
    rw [hσ]
    clear hσ σ'
    dsimp only [zRet]
    refine go_istore_n (i := 2) (pc := 16) dX11_ask_16 rfl (by decide) ?_
    refine go_iconst (nI 1) (pc := 17) dX11_ask_17 (by decide) ?_
    refine go_istore_n (i := 3) (pc := 18) dX11_ask_18 rfl (by decide) ?_
    refine go_iload_n (i := 2) (pc := 19) dX11_ask_19 rfl rfl ?_
    refine go_istore (pc := 20) dX11_ask_20 (by decide) ?_
    refine go_iconst (nI 1) (pc := 22) dX11_ask_22 (by decide) ?_
    refine go_istore (pc := 23) dX11_ask_23 (by decide) ?_
    exact loop 0 _ (by omega) hCt hF
  refine go_aload_n (i := 0) (pc := 0) dX11_ask_0 rfl rfl ?_
  refine go_callV ml_X11_376 mt_X11_fitting (pc := 1) dX11_ask_1 (c_X11_fitting hC) (by first | rfl | (apply zL_cq <;> assumption) | (apply zR_cq <;> assumption)) rfl (by first | rfl | (apply zL_in <;> first | assumption | decide) | (apply zR_in <;> first | assumption | decide)) (by decide) (by decide) rfl rfl (Nat.le_of_ble_eq_true rfl) (fun r σ' hp => ?_)
  obtain ⟨rfl, hC2, hF2⟩ := hp
  dsimp only [zRet]
  refine go_istore_n (i := 1) (pc := 4) dX11_ask_4 rfl (by decide) ?_
  refine go_iload_n (i := 1) (pc := 5) dX11_ask_5 rfl rfl ?_
  refine go_if_ne 12 (pc := 6) dX11_ask_6 (by decide) (fun h6 => ?_) (fun h6 => ?_)
  · first | rw [zb_0d] at h6 | rw [zn_eq0 (by omega)] at h6 | rw [zi_eq0] at h6
    exact main h6 _ hC2 hF2
  · first | rw [zb_0d] at h6 | rw [zn_eq0 (by omega)] at h6 | rw [zi_eq0] at h6
    refine go_bipush (-2) (pc := 9) dX11_ask_9 (by decide) ?_
    refine go_ireturn (pc := 11) dX11_ask_11 rfl ?_
    have h6 : fitB (vOf bd sk xs ld.1) ld.2 ru bd.1 = 0 := by omega
    rw [if_pos h6, if_pos h6]
    exact ⟨rfl, hC2, hF2⟩

