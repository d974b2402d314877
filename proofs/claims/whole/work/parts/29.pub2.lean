abbrev Roomy (ρ : Nat → Nat) : Prop := ρ 27 + 300 < 2 ^ 28 ∧ ρ 28 + 21600 < 2 ^ 28
abbrev vLd (bd : Nat × (Nat → Nat) × (Nat → Nat)) (sk : Nat × (Nat → Nat)) (xs : List Nat) (ld : Nat × (Nat → Nat)) : zV := vOf bd sk xs ld.1
def sWeeks (bd : Nat × (Nat → Nat) × (Nat → Nat)) (sk : Nat × (Nat → Nat)) (xs : List Nat) (ld : Nat × (Nat → Nat)) (n : Nat) : Nat × Nat × Nat × (Nat → Nat) := wks (vOf bd sk xs ld.1) ld.2 n
abbrev in0 (n : Int32) (M : Nat) : Prop := 0 ≤ n.toInt ∧ n.toInt ≤ (M : Int)
/-- weeks till something comes over: which, who -/
def hld (V : zV) : Nat → (Nat → Nat) → Nat → Option (Nat × Nat)
  | 0, _, _ => none
  | f + 1, ρ, k => if (wk1 V ρ).2.1 = 0 then hld V f (wk1 V ρ).2.2 (k + 1) else some (k, (wk1 V ρ).1)
theorem hedSum_le {n : Nat} {ρ : Nat → Nat} (h : RowOK n ρ) : hedSum n ρ ≤ 108 := by
  have := sumN_le (n := n) (c := 9) (g := ρ) (fun i hi => h.2.2.1 i (by have := h.2.1; omega))
  have h2 : n * 9 ≤ 12 * 9 := Nat.mul_le_mul_right 9 h.2.1
  unfold hedSum
  omega
section PB2
variable {σ σ' : zT} {tx : Nat × (Nat → Nat)} {bd : Nat × (Nat → Nat) × (Nat → Nat)} {sk : Nat × (Nat → Nat)} {tw : Nat × (Nat → Nat) × (Nat → Nat)} {xs : List Nat} {ld : Nat × (Nat → Nat)} {pa sh : Nat × (Nat → Nat → Nat)} {ru : Nat × (Nat → Nat) × (Nat → Nat)} {to : Nat × (Nat → Int64)}
/-- a crossing over a scratch land -/
theorem ClsIs.try {kr kl : Nat} {V : zV} {ρ' : Nat → Nat} (h : ClsIs σ tx bd sk tw xs ld pa sh ru to) (hkr : zRl kr = true) (hk : σ.2.2.2 14 = kr) (hkl : kl = 7 ∨ kl = 8) (hf : FrG [kr, 5, kl] σ σ') (hV : vX V = xs) (hW : WIs σ' kr kl V ρ') : ClsIs σ' tx bd sk tw xs ld pa sh ru to := by
  obtain ⟨-, ⟨ys, e1, hR⟩, -, -, -⟩ := hW
  have e2 : ys = xs := e1.symm.trans hV
  subst e2
  exact h.frR hkr hk hR hf (by simp; omega)
end PB2

theorem c_X11_weeks {E : zE} {σ : zT} {tx : Nat × (Nat → Nat)} {bd : Nat × (Nat → Nat) × (Nat → Nat)} {sk : Nat × (Nat → Nat)} {tw : Nat × (Nat → Nat) × (Nat → Nat)} {xs : List Nat} {ld : Nat × (Nat → Nat)} {pa sh : Nat × (Nat → Nat → Nat)} {ru : Nat × (Nat → Nat) × (Nat → Nat)} {to : Nat × (Nat → Int64)} {n : Int32} (hC : ClsIs σ tx bd sk tw xs ld pa sh ru to) (hro : Roomy ld.2) : CalM E 7 yX11_weeks cX11_weeks 3 (some .int) [.ref (zA E 0 0), .int n] σ (fun r σ' => r = some (.int (if in0 n 60 then nI (sWeeks bd sk xs ld n.toInt.toNat).2.2.1 else -1)) ∧ ClsIs σ' tx bd sk tw xs (if in0 n 60 then (ld.1, (sWeeks bd sk xs ld n.toInt.toNat).2.2.2) else ld) (if in0 n 60 then (min (pa.1 + 1) 15, pushH pa.2 pa.1 ld.2) else pa) sh ru (if in0 n 60 then (2, ln2 (lN (sWeeks bd sk xs ld n.toInt.toNat).1) (lN (hedSum ld.1 (sWeeks bd sk xs ld n.toInt.toNat).2.2.2))) else to) ∧ Fr33 σ σ') := by
  refine cal_of_go (own := RX11) rfl (by decide +kernel) (Nat.le_of_ble_eq_true rfl) ?_
  have hL := hC.2.2.2.2.2.1
  have hn := hL.b
  have hok := hL.1
  refine go_iload_n (i := 1) (pc := 0) dX11_weeks_0 rfl rfl ?_
  refine go_if_lt 10 (pc := 1) dX11_weeks_1 (by decide) (fun h1 => ?_) (fun h1 => ?_)
  · first | rw [zb_0d] at h1 | rw [zn_lt0 (by omega)] at h1 | rw [zi_lt0] at h1
    refine go_iconst (-1) (pc := 10) dX11_weeks_10 (by decide) ?_
    refine go_ireturn (pc := 11) dX11_weeks_11 rfl ?_
    rw [if_neg (by omega), if_neg (by omega), if_neg (by omega), if_neg (by omega)]
    exact ⟨rfl, hC, Fr33.rf⟩
  · first | rw [zb_0d] at h1 | rw [zn_lt0 (by omega)] at h1 | rw [zi_lt0] at h1
    refine go_iload_n (i := 1) (pc := 4) dX11_weeks_4 rfl rfl ?_
    refine go_bipush (nI 60) (pc := 5) dX11_weeks_5 (by decide) ?_
    refine go_icmp_le 12 (pc := 7) dX11_weeks_7 (by decide) (fun h7 => ?_) (fun h7 => ?_)
    · first | rw [nI_leI (by omega) (by omega)] at h7 | rw [zi_leN (by omega)] at h7 | rw [zi_Nle (by omega)] at h7 | rw [zi_le] at h7
      have hin : in0 n 60 := by omega
      rw [if_pos hin, if_pos hin, if_pos hin, if_pos hin]
      have en := nI_of' (x := n) (by omega)
      generalize hqn : n.toInt.toNat = n1 at en ⊢
      have hn1 : n1 ≤ 60 := by omega
      clear hin
      subst en
      unfold sWeeks
      refine go_aload_n (i := 0) (pc := 12) dX11_weeks_12 rfl rfl ?_
      refine go_getr2 fl_X11_56 (pc := 13) dX11_weeks_13 (by first | rfl | (apply zL_ci <;> assumption) | (apply zR_ci <;> assumption)) (by first | rfl | (apply zL_in <;> first | assumption | decide) | (apply zR_in <;> first | assumption | decide)) (by first | rfl | (apply zL_fr0 <;> assumption) | (apply zL_fr1 <;> assumption) | (apply zR_fr0 <;> assumption) | (apply zR_fr1 <;> assumption) | (apply zR_fr2 <;> assumption) | (apply zR_fr3 <;> assumption)) ?_
      refine go_aload_n (i := 0) (pc := 16) dX11_weeks_16 rfl rfl ?_
      refine go_getr2 fl_X11_49 (pc := 17) dX11_weeks_17 (by first | rfl | (apply zL_ci <;> assumption) | (apply zR_ci <;> assumption)) (by first | rfl | (apply zL_in <;> first | assumption | decide) | (apply zR_in <;> first | assumption | decide)) (by first | rfl | (apply zL_fr0 <;> assumption) | (apply zL_fr1 <;> assumption) | (apply zR_fr0 <;> assumption) | (apply zR_fr1 <;> assumption) | (apply zR_fr2 <;> assumption) | (apply zR_fr3 <;> assumption)) ?_
      refine go_callV ml_X11_198 mt_X2_copyFrom (pc := 20) dX11_weeks_20 (c_X2_copyFrom rfl rfl hL) (by first | rfl | (apply zL_cq <;> assumption) | (apply zR_cq <;> assumption)) rfl (by first | rfl | (apply zL_in <;> first | assumption | decide) | (apply zR_in <;> first | assumption | decide)) (by decide) (by decide) rfl rfl (Nat.le_of_ble_eq_true rfl) (fun r σ' hp => ?_)
      obtain ⟨rfl, hb, hf⟩ := hp
      dsimp only [zRet]
      have hC1 := hC.fr hf (by simp)
      obtain ⟨kr, hkr, hz, hR14, hW⟩ := hC1.w (kl := 6) rfl hC1.2.2.2.2.2.1
      refine go_aload_n (i := 0) (pc := 23) dX11_weeks_23 rfl rfl ?_
      refine go_aload_n (i := 0) (pc := 24) dX11_weeks_24 rfl rfl ?_
      refine go_getr2 fl_X11_42 (pc := 25) dX11_weeks_25 (by first | rfl | (apply zL_ci <;> assumption) | (apply zR_ci <;> assumption)) (by first | rfl | (apply zL_in <;> first | assumption | decide) | (apply zR_in <;> first | assumption | decide)) (by first | rfl | (apply zL_fr0 <;> assumption) | (apply zL_fr1 <;> assumption) | (apply zR_fr0 <;> assumption) | (apply zR_fr1 <;> assumption) | (apply zR_fr2 <;> assumption) | (apply zR_fr3 <;> assumption)) ?_
      refine go_aload_n (i := 0) (pc := 28) dX11_weeks_28 rfl rfl ?_
      refine go_getR fl_X11_97 (pc := 29) dX11_weeks_29 rfl ?_
      rw [hR14]
      refine go_aload_n (i := 0) (pc := 32) dX11_weeks_32 rfl rfl ?_
      refine go_getr2 fl_X11_49 (pc := 33) dX11_weeks_33 (by first | rfl | (apply zL_ci <;> assumption) | (apply zR_ci <;> assumption)) (by first | rfl | (apply zL_in <;> first | assumption | decide) | (apply zR_in <;> first | assumption | decide)) (by first | rfl | (apply zL_fr0 <;> assumption) | (apply zL_fr1 <;> assumption) | (apply zR_fr0 <;> assumption) | (apply zR_fr1 <;> assumption) | (apply zR_fr2 <;> assumption) | (apply zR_fr3 <;> assumption)) ?_
      refine go_iload_n (i := 1) (pc := 36) dX11_weeks_36 rfl rfl ?_
      refine go_callV ml_X11_217 mt_X1_pass (pc := 37) dX11_weeks_37 (c_X1_pass hW (by omega) (by omega)) (by first | rfl | (apply zL_cq <;> assumption) | (apply zR_cq <;> assumption)) rfl (by first | rfl | (apply zL_in <;> first | assumption | decide) | (apply zR_in <;> first | assumption | decide)) (by decide) (by decide) rfl rfl (Nat.le_of_ble_eq_true rfl) (fun r σ' hp => ?_)
      obtain ⟨rfl, hE5, hE6, hE4, hW2, hf2⟩ := hp
      dsimp only [zRet]
      have hC2 := hC1.setW hz hR14 hf2 hW2
      have hb2 := hb.fr hf2 (by simp; omega)
      obtain ⟨a1, a2, a3, a4, a5, a6, a7⟩ := wks_ok hW.vok hok n1 (by omega) (by omega)
      refine go_callV ml_X11_205 mt_X11_remembered (pc := 40) dX11_weeks_40 (c_X11_remembered hC2 hb2) (by first | rfl | (apply zL_cq <;> assumption) | (apply zR_cq <;> assumption)) rfl (by first | rfl | (apply zL_in <;> first | assumption | decide) | (apply zR_in <;> first | assumption | decide)) (by decide) (by decide) rfl rfl (Nat.le_of_ble_eq_true rfl) (fun r σ' hp => ?_)
      obtain ⟨rfl, hC3, hf3⟩ := hp
      dsimp only [zRet]
      refine go_istore_n (i := 2) (pc := 43) dX11_weeks_43 rfl (by decide) ?_
      refine go_aload_n (i := 0) (pc := 44) dX11_weeks_44 rfl rfl ?_
      refine go_getr2 fl_X11_83 (pc := 45) dX11_weeks_45 (by first | rfl | (apply zL_ci <;> assumption) | (apply zR_ci <;> assumption)) (by first | rfl | (apply zL_in <;> first | assumption | decide) | (apply zR_in <;> first | assumption | decide)) (by first | rfl | (apply zL_fr0 <;> assumption) | (apply zL_fr1 <;> assumption) | (apply zR_fr0 <;> assumption) | (apply zR_fr1 <;> assumption) | (apply zR_fr2 <;> assumption) | (apply zR_fr3 <;> assumption)) ?_
      refine go_aload_n (i := 0) (pc := 48) dX11_weeks_48 rfl rfl ?_
      refine go_getr2 fl_X11_42 (pc := 49) dX11_weeks_49 (by first | rfl | (apply zL_ci <;> assumption) | (apply zR_ci <;> assumption)) (by first | rfl | (apply zL_in <;> first | assumption | decide) | (apply zR_in <;> first | assumption | decide)) (by first | rfl | (apply zL_fr0 <;> assumption) | (apply zL_fr1 <;> assumption) | (apply zR_fr0 <;> assumption) | (apply zR_fr1 <;> assumption) | (apply zR_fr2 <;> assumption) | (apply zR_fr3 <;> assumption)) ?_
      refine go_callV ml_X11_220 mt_X1_everWent (pc := 52) dX11_weeks_52 (c_X1_everWent) (by first | rfl | (apply zL_cq <;> assumption) | (apply zR_cq <;> assumption)) rfl (by first | rfl | (apply zL_in <;> first | assumption | decide) | (apply zR_in <;> first | assumption | decide)) (by decide) (by decide) rfl rfl (Nat.le_of_ble_eq_true rfl) (fun r σ' hp => ?_)
      obtain ⟨rfl, hσ⟩ := hp
      rw [hσ]
      clear hσ σ'
      dsimp only [zRet]
      rw [(hf3.1 5 (by decide)).1, hE5]
      refine go_i2l (pc := 55) dX11_weeks_55 ?_
      rw [nI_l (by omega)]
      refine go_aload_n (i := 0) (pc := 56) dX11_weeks_56 rfl rfl ?_
      refine go_getr2 fl_X11_49 (pc := 57) dX11_weeks_57 (by first | rfl | (apply zL_ci <;> assumption) | (apply zR_ci <;> assumption)) (by first | rfl | (apply zL_in <;> first | assumption | decide) | (apply zR_in <;> first | assumption | decide)) (by first | rfl | (apply zL_fr0 <;> assumption) | (apply zL_fr1 <;> assumption) | (apply zR_fr0 <;> assumption) | (apply zR_fr1 <;> assumption) | (apply zR_fr2 <;> assumption) | (apply zR_fr3 <;> assumption)) ?_
      refine go_callV ml_X11_195 mt_X2_allHedges (pc := 60) dX11_weeks_60 (c_X2_allHedges rfl hC3.2.2.2.2.2.1) (by first | rfl | (apply zL_cq <;> assumption) | (apply zR_cq <;> assumption)) rfl (by first | rfl | (apply zL_in <;> first | assumption | decide) | (apply zR_in <;> first | assumption | decide)) (by decide) (by decide) rfl rfl (Nat.le_of_ble_eq_true rfl) (fun r σ' hp => ?_)
      obtain ⟨rfl, hσ⟩ := hp
      rw [hσ]
      clear hσ σ'
      dsimp only [zRet]
      refine go_i2l (pc := 63) dX11_weeks_63 ?_
      have hs : hedSum ld.1 (wks (vOf bd sk xs ld.1) ld.2 n1).2.2.2 ≤ 108 := hedSum_le a1
      rw [nI_l (by omega)]
      refine go_callV ml_X11_223 mt_X9_two (pc := 64) dX11_weeks_64 (c_X9_two) (by first | rfl | (apply zL_cq <;> assumption) | (apply zR_cq <;> assumption)) rfl (by first | rfl | (apply zL_in <;> first | assumption | decide) | (apply zR_in <;> first | assumption | decide)) (by decide) (by decide) rfl rfl (Nat.le_of_ble_eq_true rfl) (fun r σ' hp => ?_)
      obtain ⟨rfl, hT4, hf4⟩ := hp
      dsimp only [zRet]
      refine go_iload_n (i := 2) (pc := 67) dX11_weeks_67 rfl rfl ?_
      refine go_ireturn (pc := 68) dX11_weeks_68 rfl ?_
      have ep : pshA (nI (wks (vOf bd sk xs ld.1) ld.2 n1).2.2.1) pa ld.2 = (min (pa.1 + 1) 15, pushH pa.2 pa.1 ld.2) := by
        unfold pshA
        rw [if_neg (by rw [nI_toInt (by omega)]; omega)]
      rw [ep] at hC3
      exact ⟨rfl, hC3.setTo (to' := (2, _)) hf4 hT4, (((Fr33.of hf (by simp)).tr (Fr33.of hf2 (by simp; omega))).tr (Fr33.of hf3 (by decide))).tr (Fr33.of hf4 (by simp))⟩
    · first | rw [nI_leI (by omega) (by omega)] at h7 | rw [zi_leN (by omega)] at h7 | rw [zi_Nle (by omega)] at h7 | rw [zi_le] at h7
      refine go_iconst (-1) (pc := 10) dX11_weeks_10 (by decide) ?_
      refine go_ireturn (pc := 11) dX11_weeks_11 rfl ?_
      rw [if_neg (by omega), if_neg (by omega), if_neg (by omega), if_neg (by omega)]
      exact ⟨rfl, hC, Fr33.rf⟩

theorem c_X11_goes {E : zE} {σ : zT} {tx : Nat × (Nat → Nat)} {bd : Nat × (Nat → Nat) × (Nat → Nat)} {sk : Nat × (Nat → Nat)} {tw : Nat × (Nat → Nat) × (Nat → Nat)} {xs : List Nat} {ld : Nat × (Nat → Nat)} {pa sh : Nat × (Nat → Nat → Nat)} {ru : Nat × (Nat → Nat) × (Nat → Nat)} {to : Nat × (Nat → Int64)} (hC : ClsIs σ tx bd sk tw xs ld pa sh ru to) : CalM E 6 yX11_goes cX11_goes 2 (some .int) [.ref (zA E 0 0)] σ (fun r σ' => r = some (.int (nI (crsA (vLd bd sk xs ld) 0 ld.2).1)) ∧ ClsIs σ' tx bd sk tw xs ld pa sh ru (2, ln2 (lN (crsA (vLd bd sk xs ld) 0 ld.2).2.1) (gM (bsy (crsA (vLd bd sk xs ld) 0 ld.2).2.2.1 12).1).toInt64) ∧ Fr33 σ σ') := by
  refine cal_of_go (own := RX11) rfl (by decide +kernel) (Nat.le_of_ble_eq_true rfl) ?_
  have hL := hC.2.2.2.2.2.1
  have hn := hL.b
  have hok := hL.1
  refine go_aload_n (i := 0) (pc := 0) dX11_goes_0 rfl rfl ?_
  refine go_getr2 fl_X11_53 (pc := 1) dX11_goes_1 (by first | rfl | (apply zL_ci <;> assumption) | (apply zR_ci <;> assumption)) (by first | rfl | (apply zL_in <;> first | assumption | decide) | (apply zR_in <;> first | assumption | decide)) (by first | rfl | (apply zL_fr0 <;> assumption) | (apply zL_fr1 <;> assumption) | (apply zR_fr0 <;> assumption) | (apply zR_fr1 <;> assumption) | (apply zR_fr2 <;> assumption) | (apply zR_fr3 <;> assumption)) ?_
  refine go_aload_n (i := 0) (pc := 4) dX11_goes_4 rfl rfl ?_
  refine go_getr2 fl_X11_49 (pc := 5) dX11_goes_5 (by first | rfl | (apply zL_ci <;> assumption) | (apply zR_ci <;> assumption)) (by first | rfl | (apply zL_in <;> first | assumption | decide) | (apply zR_in <;> first | assumption | decide)) (by first | rfl | (apply zL_fr0 <;> assumption) | (apply zL_fr1 <;> assumption) | (apply zR_fr0 <;> assumption) | (apply zR_fr1 <;> assumption) | (apply zR_fr2 <;> assumption) | (apply zR_fr3 <;> assumption)) ?_
  refine go_callV ml_X11_198 mt_X2_copyFrom (pc := 8) dX11_goes_8 (c_X2_copyFrom rfl rfl hL) (by first | rfl | (apply zL_cq <;> assumption) | (apply zR_cq <;> assumption)) rfl (by first | rfl | (apply zL_in <;> first | assumption | decide) | (apply zR_in <;> first | assumption | decide)) (by decide) (by decide) rfl rfl (Nat.le_of_ble_eq_true rfl) (fun r σ' hp => ?_)
  obtain ⟨rfl, hb, hf⟩ := hp
  dsimp only [zRet]
  have hC1 := hC.fr hf (by simp)
  obtain ⟨kr, hkr, hz, hR14, hW⟩ := hC1.w (kl := 7) rfl hb
  refine go_aload_n (i := 0) (pc := 11) dX11_goes_11 rfl rfl ?_
  refine go_getr2 fl_X11_42 (pc := 12) dX11_goes_12 (by first | rfl | (apply zL_ci <;> assumption) | (apply zR_ci <;> assumption)) (by first | rfl | (apply zL_in <;> first | assumption | decide) | (apply zR_in <;> first | assumption | decide)) (by first | rfl | (apply zL_fr0 <;> assumption) | (apply zL_fr1 <;> assumption) | (apply zR_fr0 <;> assumption) | (apply zR_fr1 <;> assumption) | (apply zR_fr2 <;> assumption) | (apply zR_fr3 <;> assumption)) ?_
  refine go_aload_n (i := 0) (pc := 15) dX11_goes_15 rfl rfl ?_
  refine go_getR fl_X11_97 (pc := 16) dX11_goes_16 rfl ?_
  rw [hR14]
  refine go_aload_n (i := 0) (pc := 19) dX11_goes_19 rfl rfl ?_
  refine go_getr2 fl_X11_53 (pc := 20) dX11_goes_20 (by first | rfl | (apply zL_ci <;> assumption) | (apply zR_ci <;> assumption)) (by first | rfl | (apply zL_in <;> first | assumption | decide) | (apply zR_in <;> first | assumption | decide)) (by first | rfl | (apply zL_fr0 <;> assumption) | (apply zL_fr1 <;> assumption) | (apply zR_fr0 <;> assumption) | (apply zR_fr1 <;> assumption) | (apply zR_fr2 <;> assumption) | (apply zR_fr3 <;> assumption)) ?_
  refine go_iconst (nI 0) (pc := 23) dX11_goes_23 (by decide) ?_
  refine go_callV ml_X11_288 mt_X1_cross (pc := 24) dX11_goes_24 (c_X1_cross hW (by decide)) (by first | rfl | (apply zL_cq <;> assumption) | (apply zR_cq <;> assumption)) rfl (by first | rfl | (apply zL_in <;> first | assumption | decide) | (apply zR_in <;> first | assumption | decide)) (by decide) (by decide) rfl rfl (Nat.le_of_ble_eq_true rfl) (fun r σ' hp => ?_)
  obtain ⟨rfl, hE4, hom, hW2, hf2, hE⟩ := hp
  dsimp only [zRet]
  have hC2 := hC1.try hz hR14 (Or.inl rfl) hf2 rfl hW2
  obtain ⟨c1, c2, c3, c4, c5⟩ := crs_ok (st := 0) hW.vok hok (vC (vLd bd sk xs ld)) (Nat.le_refl _)
  have hc8 : vC (vLd bd sk xs ld) ≤ 8 := hW.vok.2.2.1
  refine go_istore_n (i := 1) (pc := 27) dX11_goes_27 rfl (by decide) ?_
  refine go_aload_n (i := 0) (pc := 28) dX11_goes_28 rfl rfl ?_
  refine go_getr2 fl_X11_83 (pc := 29) dX11_goes_29 (by first | rfl | (apply zL_ci <;> assumption) | (apply zR_ci <;> assumption)) (by first | rfl | (apply zL_in <;> first | assumption | decide) | (apply zR_in <;> first | assumption | decide)) (by first | rfl | (apply zL_fr0 <;> assumption) | (apply zL_fr1 <;> assumption) | (apply zR_fr0 <;> assumption) | (apply zR_fr1 <;> assumption) | (apply zR_fr2 <;> assumption) | (apply zR_fr3 <;> assumption)) ?_
  refine go_iload_n (i := 1) (pc := 32) dX11_goes_32 rfl rfl ?_
  refine go_i2l (pc := 33) dX11_goes_33 ?_
  have c33 : (crsA (vOf bd sk xs ld.1) 0 ld.2).2.1 ≤ 9 * vC (vLd bd sk xs ld) := c3
  rw [nI_l (Nat.lt_of_le_of_lt c33 (by omega))]
  refine go_aload_n (i := 0) (pc := 34) dX11_goes_34 rfl rfl ?_
  refine go_getr2 fl_X11_42 (pc := 35) dX11_goes_35 (by first | rfl | (apply zL_ci <;> assumption) | (apply zR_ci <;> assumption)) (by first | rfl | (apply zL_in <;> first | assumption | decide) | (apply zR_in <;> first | assumption | decide)) (by first | rfl | (apply zL_fr0 <;> assumption) | (apply zL_fr1 <;> assumption) | (apply zR_fr0 <;> assumption) | (apply zR_fr1 <;> assumption) | (apply zR_fr2 <;> assumption) | (apply zR_fr3 <;> assumption)) ?_
  refine go_callV ml_X11_291 mt_X1_busiest (pc := 38) dX11_goes_38 (c_X1_busiest (om := (crsA (vLd bd sk xs ld) 0 ld.2).2.2.1) (fun i hi => ⟨hom i hi, Nat.lt_of_le_of_lt (c5 i) (by omega)⟩)) (by first | rfl | (apply zL_cq <;> assumption) | (apply zR_cq <;> assumption)) rfl (by first | rfl | (apply zL_in <;> first | assumption | decide) | (apply zR_in <;> first | assumption | decide)) (by decide) (by decide) rfl rfl (Nat.le_of_ble_eq_true rfl) (fun r σ' hp => ?_)
  obtain ⟨rfl, hσ⟩ := hp
  rw [hσ]
  clear hσ σ'
  dsimp only [zRet]
  refine go_i2l (pc := 41) dX11_goes_41 ?_
  refine go_callV ml_X11_223 mt_X9_two (pc := 42) dX11_goes_42 (c_X9_two) (by first | rfl | (apply zL_cq <;> assumption) | (apply zR_cq <;> assumption)) rfl (by first | rfl | (apply zL_in <;> first | assumption | decide) | (apply zR_in <;> first | assumption | decide)) (by decide) (by decide) rfl rfl (Nat.le_of_ble_eq_true rfl) (fun r σ' hp => ?_)
  obtain ⟨rfl, hT4, hf4⟩ := hp
  dsimp only [zRet]
  refine go_aload_n (i := 0) (pc := 45) dX11_goes_45 rfl rfl ?_
  refine go_getr2 fl_X11_42 (pc := 46) dX11_goes_46 (by first | rfl | (apply zL_ci <;> assumption) | (apply zR_ci <;> assumption)) (by first | rfl | (apply zL_in <;> first | assumption | decide) | (apply zR_in <;> first | assumption | decide)) (by first | rfl | (apply zL_fr0 <;> assumption) | (apply zL_fr1 <;> assumption) | (apply zR_fr0 <;> assumption) | (apply zR_fr1 <;> assumption) | (apply zR_fr2 <;> assumption) | (apply zR_fr3 <;> assumption)) ?_
  refine go_callV ml_X11_294 mt_X1_went (pc := 49) dX11_goes_49 (c_X1_went) (by first | rfl | (apply zL_cq <;> assumption) | (apply zR_cq <;> assumption)) rfl (by first | rfl | (apply zL_in <;> first | assumption | decide) | (apply zR_in <;> first | assumption | decide)) (by decide) (by decide) rfl rfl (Nat.le_of_ble_eq_true rfl) (fun r σ' hp => ?_)
  obtain ⟨rfl, hσ⟩ := hp
  rw [hσ]
  clear hσ σ'
  dsimp only [zRet]
  rw [(hf4.1 5 (by decide)).1, hE4]
  refine go_ireturn (pc := 52) dX11_goes_52 rfl ?_
  exact ⟨rfl, hC2.setTo (to' := (2, _)) hf4 hT4, ((Fr33.of hf (by simp)).tr (Fr33.of hf2 (by simp; omega))).tr (Fr33.of hf4 (by simp))⟩

theorem c_X11_ahead {E : zE} {σ : zT} {tx : Nat × (Nat → Nat)} {bd : Nat × (Nat → Nat) × (Nat → Nat)} {sk : Nat × (Nat → Nat)} {tw : Nat × (Nat → Nat) × (Nat → Nat)} {xs : List Nat} {ld : Nat × (Nat → Nat)} {pa sh : Nat × (Nat → Nat → Nat)} {ru : Nat × (Nat → Nat) × (Nat → Nat)} {to : Nat × (Nat → Int64)} {n : Int32} (hC : ClsIs σ tx bd sk tw xs ld pa sh ru to) (hro : Roomy ld.2) : CalM E 7 yX11_ahead cX11_ahead 3 (some .int) [.ref (zA E 0 0), .int n] σ (fun r σ' => r = some (.int (if in0 n 99 then nI (sWeeks bd sk xs ld n.toInt.toNat).2.2.1 else -1)) ∧ ClsIs σ' tx bd sk tw xs ld pa sh ru (if in0 n 99 then (2, ln2 (lN (hedSum ld.1 (sWeeks bd sk xs ld n.toInt.toNat).2.2.2)) (lN (sWeeks bd sk xs ld n.toInt.toNat).2.1)) else to) ∧ Fr33 σ σ') := by
  refine cal_of_go (own := RX11) rfl (by decide +kernel) (Nat.le_of_ble_eq_true rfl) ?_
  have hL := hC.2.2.2.2.2.1
  have hn := hL.b
  have hok := hL.1
  refine go_iload_n (i := 1) (pc := 0) dX11_ahead_0 rfl rfl ?_
  refine go_if_lt 10 (pc := 1) dX11_ahead_1 (by decide) (fun h1 => ?_) (fun h1 => ?_)
  · first | rw [zb_0d] at h1 | rw [zn_lt0 (by omega)] at h1 | rw [zi_lt0] at h1
    refine go_iconst (-1) (pc := 10) dX11_ahead_10 (by decide) ?_
    refine go_ireturn (pc := 11) dX11_ahead_11 rfl ?_
    rw [if_neg (by omega), if_neg (by omega)]
    exact ⟨rfl, hC, Fr33.rf⟩
  · first | rw [zb_0d] at h1 | rw [zn_lt0 (by omega)] at h1 | rw [zi_lt0] at h1
    refine go_iload_n (i := 1) (pc := 4) dX11_ahead_4 rfl rfl ?_
    refine go_bipush (nI 99) (pc := 5) dX11_ahead_5 (by decide) ?_
    refine go_icmp_le 12 (pc := 7) dX11_ahead_7 (by decide) (fun h7 => ?_) (fun h7 => ?_)
    · first | rw [nI_leI (by omega) (by omega)] at h7 | rw [zi_leN (by omega)] at h7 | rw [zi_Nle (by omega)] at h7 | rw [zi_le] at h7
      have hin : in0 n 99 := by omega
      rw [if_pos hin, if_pos hin]
      have en := nI_of' (x := n) (by omega)
      generalize hqn : n.toInt.toNat = n1 at en ⊢
      have hn1 : n1 ≤ 99 := by omega
      clear hin
      subst en
      unfold sWeeks
      refine go_aload_n (i := 0) (pc := 12) dX11_ahead_12 rfl rfl ?_
      refine go_getr2 fl_X11_53 (pc := 13) dX11_ahead_13 (by first | rfl | (apply zL_ci <;> assumption) | (apply zR_ci <;> assumption)) (by first | rfl | (apply zL_in <;> first | assumption | decide) | (apply zR_in <;> first | assumption | decide)) (by first | rfl | (apply zL_fr0 <;> assumption) | (apply zL_fr1 <;> assumption) | (apply zR_fr0 <;> assumption) | (apply zR_fr1 <;> assumption) | (apply zR_fr2 <;> assumption) | (apply zR_fr3 <;> assumption)) ?_
      refine go_aload_n (i := 0) (pc := 16) dX11_ahead_16 rfl rfl ?_
      refine go_getr2 fl_X11_49 (pc := 17) dX11_ahead_17 (by first | rfl | (apply zL_ci <;> assumption) | (apply zR_ci <;> assumption)) (by first | rfl | (apply zL_in <;> first | assumption | decide) | (apply zR_in <;> first | assumption | decide)) (by first | rfl | (apply zL_fr0 <;> assumption) | (apply zL_fr1 <;> assumption) | (apply zR_fr0 <;> assumption) | (apply zR_fr1 <;> assumption) | (apply zR_fr2 <;> assumption) | (apply zR_fr3 <;> assumption)) ?_
      refine go_callV ml_X11_198 mt_X2_copyFrom (pc := 20) dX11_ahead_20 (c_X2_copyFrom rfl rfl hL) (by first | rfl | (apply zL_cq <;> assumption) | (apply zR_cq <;> assumption)) rfl (by first | rfl | (apply zL_in <;> first | assumption | decide) | (apply zR_in <;> first | assumption | decide)) (by decide) (by decide) rfl rfl (Nat.le_of_ble_eq_true rfl) (fun r σ' hp => ?_)
      obtain ⟨rfl, hb, hf⟩ := hp
      dsimp only [zRet]
      have hC1 := hC.fr hf (by simp)
      obtain ⟨kr, hkr, hz, hR14, hW⟩ := hC1.w (kl := 7) rfl hb
      refine go_aload_n (i := 0) (pc := 23) dX11_ahead_23 rfl rfl ?_
      refine go_getr2 fl_X11_42 (pc := 24) dX11_ahead_24 (by first | rfl | (apply zL_ci <;> assumption) | (apply zR_ci <;> assumption)) (by first | rfl | (apply zL_in <;> first | assumption | decide) | (apply zR_in <;> first | assumption | decide)) (by first | rfl | (apply zL_fr0 <;> assumption) | (apply zL_fr1 <;> assumption) | (apply zR_fr0 <;> assumption) | (apply zR_fr1 <;> assumption) | (apply zR_fr2 <;> assumption) | (apply zR_fr3 <;> assumption)) ?_
      refine go_aload_n (i := 0) (pc := 27) dX11_ahead_27 rfl rfl ?_
      refine go_getR fl_X11_97 (pc := 28) dX11_ahead_28 rfl ?_
      rw [hR14]
      refine go_aload_n (i := 0) (pc := 31) dX11_ahead_31 rfl rfl ?_
      refine go_getr2 fl_X11_53 (pc := 32) dX11_ahead_32 (by first | rfl | (apply zL_ci <;> assumption) | (apply zR_ci <;> assumption)) (by first | rfl | (apply zL_in <;> first | assumption | decide) | (apply zR_in <;> first | assumption | decide)) (by first | rfl | (apply zL_fr0 <;> assumption) | (apply zL_fr1 <;> assumption) | (apply zR_fr0 <;> assumption) | (apply zR_fr1 <;> assumption) | (apply zR_fr2 <;> assumption) | (apply zR_fr3 <;> assumption)) ?_
      refine go_iload_n (i := 1) (pc := 35) dX11_ahead_35 rfl rfl ?_
      refine go_callV ml_X11_217 mt_X1_pass (pc := 36) dX11_ahead_36 (c_X1_pass hW (by omega) (by omega)) (by first | rfl | (apply zL_cq <;> assumption) | (apply zR_cq <;> assumption)) rfl (by first | rfl | (apply zL_in <;> first | assumption | decide) | (apply zR_in <;> first | assumption | decide)) (by decide) (by decide) rfl rfl (Nat.le_of_ble_eq_true rfl) (fun r σ' hp => ?_)
      obtain ⟨rfl, hE5, hE6, hE4, hW2, hf2⟩ := hp
      dsimp only [zRet]
      have hC2 := hC1.try hz hR14 (Or.inl rfl) hf2 rfl hW2
      obtain ⟨a1, a2, a3, a4, a5, a6, a7⟩ := wks_ok hW.vok hok n1 (by omega) (by omega)
      refine go_istore_n (i := 2) (pc := 39) dX11_ahead_39 rfl (by decide) ?_
      refine go_aload_n (i := 0) (pc := 40) dX11_ahead_40 rfl rfl ?_
      refine go_getr2 fl_X11_83 (pc := 41) dX11_ahead_41 (by first | rfl | (apply zL_ci <;> assumption) | (apply zR_ci <;> assumption)) (by first | rfl | (apply zL_in <;> first | assumption | decide) | (apply zR_in <;> first | assumption | decide)) (by first | rfl | (apply zL_fr0 <;> assumption) | (apply zL_fr1 <;> assumption) | (apply zR_fr0 <;> assumption) | (apply zR_fr1 <;> assumption) | (apply zR_fr2 <;> assumption) | (apply zR_fr3 <;> assumption)) ?_
      refine go_aload_n (i := 0) (pc := 44) dX11_ahead_44 rfl rfl ?_
      refine go_getr2 fl_X11_53 (pc := 45) dX11_ahead_45 (by first | rfl | (apply zL_ci <;> assumption) | (apply zR_ci <;> assumption)) (by first | rfl | (apply zL_in <;> first | assumption | decide) | (apply zR_in <;> first | assumption | decide)) (by first | rfl | (apply zL_fr0 <;> assumption) | (apply zL_fr1 <;> assumption) | (apply zR_fr0 <;> assumption) | (apply zR_fr1 <;> assumption) | (apply zR_fr2 <;> assumption) | (apply zR_fr3 <;> assumption)) ?_
      refine go_callV ml_X11_195 mt_X2_allHedges (pc := 48) dX11_ahead_48 (c_X2_allHedges rfl hW2.2.2.2.2) (by first | rfl | (apply zL_cq <;> assumption) | (apply zR_cq <;> assumption)) rfl (by first | rfl | (apply zL_in <;> first | assumption | decide) | (apply zR_in <;> first | assumption | decide)) (by decide) (by decide) rfl rfl (Nat.le_of_ble_eq_true rfl) (fun r σ' hp => ?_)
      obtain ⟨rfl, hσ⟩ := hp
      rw [hσ]
      clear hσ σ'
      dsimp only [zRet]
      refine go_i2l (pc := 51) dX11_ahead_51 ?_
      have hs : hedSum (vN (vOf bd sk xs ld.1)) (wks (vOf bd sk xs ld.1) ld.2 n1).2.2.2 ≤ 108 := hedSum_le a1
      rw [nI_l (by omega)]
      refine go_aload_n (i := 0) (pc := 52) dX11_ahead_52 rfl rfl ?_
      refine go_getr2 fl_X11_42 (pc := 53) dX11_ahead_53 (by first | rfl | (apply zL_ci <;> assumption) | (apply zR_ci <;> assumption)) (by first | rfl | (apply zL_in <;> first | assumption | decide) | (apply zR_in <;> first | assumption | decide)) (by first | rfl | (apply zL_fr0 <;> assumption) | (apply zL_fr1 <;> assumption) | (apply zR_fr0 <;> assumption) | (apply zR_fr1 <;> assumption) | (apply zR_fr2 <;> assumption) | (apply zR_fr3 <;> assumption)) ?_
      refine go_callV ml_X11_297 mt_X1_quietWeeks (pc := 56) dX11_ahead_56 (c_X1_quietWeeks) (by first | rfl | (apply zL_cq <;> assumption) | (apply zR_cq <;> assumption)) rfl (by first | rfl | (apply zL_in <;> first | assumption | decide) | (apply zR_in <;> first | assumption | decide)) (by decide) (by decide) rfl rfl (Nat.le_of_ble_eq_true rfl) (fun r σ' hp => ?_)
      obtain ⟨rfl, hσ⟩ := hp
      rw [hσ]
      clear hσ σ'
      dsimp only [zRet]
      rw [hE6]
      refine go_i2l (pc := 59) dX11_ahead_59 ?_
      rw [nI_l (by omega)]
      refine go_callV ml_X11_223 mt_X9_two (pc := 60) dX11_ahead_60 (c_X9_two) (by first | rfl | (apply zL_cq <;> assumption) | (apply zR_cq <;> assumption)) rfl (by first | rfl | (apply zL_in <;> first | assumption | decide) | (apply zR_in <;> first | assumption | decide)) (by decide) (by decide) rfl rfl (Nat.le_of_ble_eq_true rfl) (fun r σ' hp => ?_)
      obtain ⟨rfl, hT4, hf4⟩ := hp
      dsimp only [zRet]
      refine go_iload_n (i := 2) (pc := 63) dX11_ahead_63 rfl rfl ?_
      refine go_ireturn (pc := 64) dX11_ahead_64 rfl ?_
      exact ⟨rfl, hC2.setTo (to' := (2, _)) hf4 hT4, ((Fr33.of hf (by simp)).tr (Fr33.of hf2 (by simp; omega))).tr (Fr33.of hf4 (by simp))⟩
    · first | rw [nI_leI (by omega) (by omega)] at h7 | rw [zi_leN (by omega)] at h7 | rw [zi_Nle (by omega)] at h7 | rw [zi_le] at h7
      refine go_iconst (-1) (pc := 10) dX11_ahead_10 (by decide) ?_
      refine go_ireturn (pc := 11) dX11_ahead_11 rfl ?_
      rw [if_neg (by omega), if_neg (by omega)]
      exact ⟨rfl, hC, Fr33.rf⟩

set_option maxRecDepth 4000 in
theorem c_X11_holds {E : zE} {σ : zT} {tx : Nat × (Nat → Nat)} {bd : Nat × (Nat → Nat) × (Nat → Nat)} {sk : Nat × (Nat → Nat)} {tw : Nat × (Nat → Nat) × (Nat → Nat)} {xs : List Nat} {ld : Nat × (Nat → Nat)} {pa sh : Nat × (Nat → Nat → Nat)} {ru : Nat × (Nat → Nat) × (Nat → Nat)} {to : Nat × (Nat → Int64)} (hC : ClsIs σ tx bd sk tw xs ld pa sh ru to) (hro : Roomy ld.2) : CalM E 7 yX11_holds cX11_holds 2 (some .int) [.ref (zA E 0 0)] σ (fun r σ' => r = some (.int (match hld (vLd bd sk xs ld) 99 ld.2 0 with | none => -2 | some q => nI q.1)) ∧ ClsIs σ' tx bd sk tw xs ld pa sh ru (match hld (vLd bd sk xs ld) 99 ld.2 0 with | none => to | some q => (1, ln1 (lN q.2))) ∧ Fr33 σ σ') := by
  refine cal_of_go (own := RX11) rfl (by decide +kernel) (Nat.le_of_ble_eq_true rfl) ?_
  have hL := hC.2.2.2.2.2.1
  have hn := hL.b
  have hok := hL.1
  have loop : ∀ (t : Nat) (ρ : Nat → Nat) (τ : zT), t ≤ 99 → RowOK ld.1 ρ → ρ 27 = ld.2 27 + t → ρ 28 ≤ ld.2 28 + 72 * t → hld (vLd bd sk xs ld) 99 ld.2 0 = hld (vLd bd sk xs ld) (99 - t) ρ t → LandIs τ 7 ld.1 ρ → ClsIs τ tx bd sk tw xs ld pa sh ru to → Fr33 σ τ → GoM E 7 RX11 cX11_holds 2 (some .int) (fun r σ' => r = some (.int (match hld (vLd bd sk xs ld) 99 ld.2 0 with | none => -2 | some q => nI q.1)) ∧ ClsIs σ' tx bd sk tw xs ld pa sh ru (match hld (vLd bd sk xs ld) 99 ld.2 0 with | none => to | some q => (1, ln1 (lN q.2))) ∧ Fr33 σ σ') τ 13 [(0, .ref (zA E 0 0)), (1, .int (nI t))] [] := by
    intro t
    induction hj : 99 - t using Nat.strongRecOn generalizing t with
    | ind z ih =>
      intro ρ τ ht hok2 h27 h28 hlq hT hCt hF
      obtain ⟨kr, hkr, hz, hR14, hW⟩ := hCt.w (kl := 7) rfl hT
      refine go_iload_n (i := 1) (pc := 13) dX11_holds_13 rfl rfl ?_
      refine go_bipush (nI 99) (pc := 14) dX11_holds_14 (by decide) ?_
      refine go_icmp_ge 61 (pc := 16) dX11_holds_16 (by decide) (fun h16 => ?_) (fun h16 => ?_)
      · first | rw [nI_leI (by omega) (by omega)] at h16 | rw [zi_leN (by omega)] at h16 | rw [zi_Nle (by omega)] at h16 | rw [zi_le] at h16
        have e : z = 0 := by omega
        subst e
        have hld2 : hld (vLd bd sk xs ld) 99 ld.2 0 = none := hlq
        refine go_bipush (-2) (pc := 61) dX11_holds_61 (by decide) ?_
        refine go_ireturn (pc := 63) dX11_holds_63 rfl ?_
        rw [hld2]
        exact ⟨rfl, hCt, hF⟩
      · first | rw [nI_leI (by omega) (by omega)] at h16 | rw [zi_leN (by omega)] at h16 | rw [zi_Nle (by omega)] at h16 | rw [zi_le] at h16
        refine go_aload_n (i := 0) (pc := 19) dX11_holds_19 rfl rfl ?_
        refine go_getr2 fl_X11_42 (pc := 20) dX11_holds_20 (by first | rfl | (apply zL_ci <;> assumption) | (apply zR_ci <;> assumption)) (by first | rfl | (apply zL_in <;> first | assumption | decide) | (apply zR_in <;> first | assumption | decide)) (by first | rfl | (apply zL_fr0 <;> assumption) | (apply zL_fr1 <;> assumption) | (apply zR_fr0 <;> assumption) | (apply zR_fr1 <;> assumption) | (apply zR_fr2 <;> assumption) | (apply zR_fr3 <;> assumption)) ?_
        refine go_aload_n (i := 0) (pc := 23) dX11_holds_23 rfl rfl ?_
        refine go_getR fl_X11_97 (pc := 24) dX11_holds_24 rfl ?_
        rw [hR14]
        refine go_aload_n (i := 0) (pc := 27) dX11_holds_27 rfl rfl ?_
        refine go_getr2 fl_X11_53 (pc := 28) dX11_holds_28 (by first | rfl | (apply zL_ci <;> assumption) | (apply zR_ci <;> assumption)) (by first | rfl | (apply zL_in <;> first | assumption | decide) | (apply zR_in <;> first | assumption | decide)) (by first | rfl | (apply zL_fr0 <;> assumption) | (apply zL_fr1 <;> assumption) | (apply zR_fr0 <;> assumption) | (apply zR_fr1 <;> assumption) | (apply zR_fr2 <;> assumption) | (apply zR_fr3 <;> assumption)) ?_
        refine go_iconst (nI 1) (pc := 31) dX11_holds_31 (by decide) ?_
        refine go_callV ml_X11_217 mt_X1_pass (pc := 32) dX11_holds_32 (c_X1_pass hW (by omega) (by omega)) (by first | rfl | (apply zL_cq <;> assumption) | (apply zR_cq <;> assumption)) rfl (by first | rfl | (apply zL_in <;> first | assumption | decide) | (apply zR_in <;> first | assumption | decide)) (by decide) (by decide) rfl rfl (Nat.le_of_ble_eq_true rfl) (fun r σ' hp => ?_)
        obtain ⟨rfl, hE5, hE6, hE4, hW2, hf2⟩ := hp
        dsimp only [zRet]
        have hC2 := hCt.try hz hR14 (Or.inl rfl) hf2 rfl hW2
        obtain ⟨a1, a2, a3, a4, a5, a6⟩ := wk1_ok hW.vok hok2 (by omega) (by omega)
        have e1 : (wks (vOf bd sk xs ld.1) ρ 1).2.2.1 = (wk1 (vOf bd sk xs ld.1) ρ).2.1 := Nat.zero_add _
        rw [e1]
        refine go_if_le 55 (pc := 35) dX11_holds_35 (by decide) (fun h35 => ?_) (fun h35 => ?_)
        · first | rw [zb_0d] at h35 | rw [zn_le0 (by omega)] at h35 | rw [zi_le0] at h35
          have e : z = z - 1 + 1 := by omega
          rw [e] at hlq
          have hld2 : hld (vLd bd sk xs ld) 99 ld.2 0 = hld (vLd bd sk xs ld) (z - 1) (wk1 (vLd bd sk xs ld) ρ).2.2 (t + 1) := hlq.trans (if_pos (by show (wk1 (vOf bd sk xs ld.1) ρ).2.1 = 0; omega))
          refine go_iincN (pc := 55) dX11_holds_55 rfl (by decide) ?_
          refine go_goto 13 (pc := 58) dX11_holds_58 (by decide) ?_
          exact ih (z - 1) (by omega) (t + 1) (by omega) _ _ (by omega) a1 (by omega) (by omega) hld2 hW2.2.2.2.2 hC2 (hF.tr (Fr33.of hf2 (by simp; omega)))
        · first | rw [zb_0d] at h35 | rw [zn_le0 (by omega)] at h35 | rw [zi_le0] at h35
          have e : z = z - 1 + 1 := by omega
          rw [e] at hlq
          have hld2 : hld (vLd bd sk xs ld) 99 ld.2 0 = some (t, (wk1 (vLd bd sk xs ld) ρ).1) := hlq.trans (if_neg (by show ¬ (wk1 (vOf bd sk xs ld.1) ρ).2.1 = 0; omega))
          refine go_aload_n (i := 0) (pc := 38) dX11_holds_38 rfl rfl ?_
          refine go_getr2 fl_X11_83 (pc := 39) dX11_holds_39 (by first | rfl | (apply zL_ci <;> assumption) | (apply zR_ci <;> assumption)) (by first | rfl | (apply zL_in <;> first | assumption | decide) | (apply zR_in <;> first | assumption | decide)) (by first | rfl | (apply zL_fr0 <;> assumption) | (apply zL_fr1 <;> assumption) | (apply zR_fr0 <;> assumption) | (apply zR_fr1 <;> assumption) | (apply zR_fr2 <;> assumption) | (apply zR_fr3 <;> assumption)) ?_
          refine go_aload_n (i := 0) (pc := 42) dX11_holds_42 rfl rfl ?_
          refine go_getr2 fl_X11_42 (pc := 43) dX11_holds_43 (by first | rfl | (apply zL_ci <;> assumption) | (apply zR_ci <;> assumption)) (by first | rfl | (apply zL_in <;> first | assumption | decide) | (apply zR_in <;> first | assumption | decide)) (by first | rfl | (apply zL_fr0 <;> assumption) | (apply zL_fr1 <;> assumption) | (apply zR_fr0 <;> assumption) | (apply zR_fr1 <;> assumption) | (apply zR_fr2 <;> assumption) | (apply zR_fr3 <;> assumption)) ?_
          refine go_callV ml_X11_294 mt_X1_went (pc := 46) dX11_holds_46 (c_X1_went) (by first | rfl | (apply zL_cq <;> assumption) | (apply zR_cq <;> assumption)) rfl (by first | rfl | (apply zL_in <;> first | assumption | decide) | (apply zR_in <;> first | assumption | decide)) (by decide) (by decide) rfl rfl (Nat.le_of_ble_eq_true rfl) (fun r σ' hp => ?_)
          obtain ⟨rfl, hσ⟩ := hp
          rw [hσ]
          clear hσ σ'
          dsimp only [zRet]
          rw [hE4 (Nat.le_refl 1), show (wks (vOf bd sk xs ld.1) ρ (1 - 1)).2.2.2 = ρ from rfl]
          refine go_i2l (pc := 49) dX11_holds_49 ?_
          rw [nI_l (Nat.lt_trans a5 (by decide))]
          refine go_callV ml_X11_300 mt_X9_one (pc := 50) dX11_holds_50 (c_X9_one) (by first | rfl | (apply zL_cq <;> assumption) | (apply zR_cq <;> assumption)) rfl (by first | rfl | (apply zL_in <;> first | assumption | decide) | (apply zR_in <;> first | assumption | decide)) (by decide) (by decide) rfl rfl (Nat.le_of_ble_eq_true rfl) (fun r σ' hp => ?_)
          obtain ⟨rfl, hT4, hf4⟩ := hp
          dsimp only [zRet]
          refine go_iload_n (i := 1) (pc := 53) dX11_holds_53 rfl rfl ?_
          refine go_ireturn (pc := 54) dX11_holds_54 rfl ?_
          rw [hld2]
          exact ⟨rfl, hC2.setTo (to' := (1, _)) hf4 hT4, (hF.tr (Fr33.of hf2 (by simp; omega))).tr (Fr33.of hf4 (by simp))⟩
  refine go_aload_n (i := 0) (pc := 0) dX11_holds_0 rfl rfl ?_
  refine go_getr2 fl_X11_53 (pc := 1) dX11_holds_1 (by first | rfl | (apply zL_ci <;> assumption) | (apply zR_ci <;> assumption)) (by first | rfl | (apply zL_in <;> first | assumption | decide) | (apply zR_in <;> first | assumption | decide)) (by first | rfl | (apply zL_fr0 <;> assumption) | (apply zL_fr1 <;> assumption) | (apply zR_fr0 <;> assumption) | (apply zR_fr1 <;> assumption) | (apply zR_fr2 <;> assumption) | (apply zR_fr3 <;> assumption)) ?_
  refine go_aload_n (i := 0) (pc := 4) dX11_holds_4 rfl rfl ?_
  refine go_getr2 fl_X11_49 (pc := 5) dX11_holds_5 (by first | rfl | (apply zL_ci <;> assumption) | (apply zR_ci <;> assumption)) (by first | rfl | (apply zL_in <;> first | assumption | decide) | (apply zR_in <;> first | assumption | decide)) (by first | rfl | (apply zL_fr0 <;> assumption) | (apply zL_fr1 <;> assumption) | (apply zR_fr0 <;> assumption) | (apply zR_fr1 <;> assumption) | (apply zR_fr2 <;> assumption) | (apply zR_fr3 <;> assumption)) ?_
  refine go_callV ml_X11_198 mt_X2_copyFrom (pc := 8) dX11_holds_8 (c_X2_copyFrom rfl rfl hL) (by first | rfl | (apply zL_cq <;> assumption) | (apply zR_cq <;> assumption)) rfl (by first | rfl | (apply zL_in <;> first | assumption | decide) | (apply zR_in <;> first | assumption | decide)) (by decide) (by decide) rfl rfl (Nat.le_of_ble_eq_true rfl) (fun r σ' hp => ?_)
  obtain ⟨rfl, hb, hf⟩ := hp
  dsimp only [zRet]
  have hC1 := hC.fr hf (by simp)
  refine go_iconst (nI 0) (pc := 11) dX11_holds_11 (by decide) ?_
  refine go_istore_n (i := 1) (pc := 12) dX11_holds_12 rfl (by decide) ?_
  exact loop 0 ld.2 _ (by omega) hok rfl (by omega) rfl hb hC1 (Fr33.of hf (by simp))

