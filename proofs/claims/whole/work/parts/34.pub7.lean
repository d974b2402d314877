/-! whom a reward turns; chances; rests; years drawn by a seed -/
theorem rew_le {V : zV} {ρ : Nat → Nat} {c : Nat} (h1 : vL V c ≤ 9) (h2 : ρ 25 ≤ 99) (h3 : ρ 26 ≤ 99) : rew V ρ c ≤ 891 := by
  have := gain_b h1 h2 h3
  unfold rew
  split
  · omega
  · split <;> omega
def cns (V : zV) (ρ : Nat → Nat) (b n : Nat) : Nat := sumN n (fun c => if b.testBit c then rew V ρ c else 0)
def payL (V : zV) (ρ : Nat → Nat) (v : Nat) : Nat → Nat × Nat × Nat
  | 0 => (1000000, 0, 0)
  | s + 1 => if cns V ρ s (vC V) ≤ v ∧ ((crsA V s ρ).2.1 < (payL V ρ v s).1 ∨ ((crsA V s ρ).2.1 = (payL V ρ v s).1 ∧ cns V ρ s (vC V) < (payL V ρ v s).2.1)) then ((crsA V s ρ).2.1, cns V ρ s (vC V), s) else payL V ρ v s
theorem payL_b {V : zV} {ρ : Nat → Nat} {v s : Nat} (hv : v ≤ 999) (h : ∀ t, t < s → (crsA V t ρ).2.1 ≤ 72) : (payL V ρ v s).1 ≤ 1000000 ∧ (payL V ρ v s).2.1 ≤ 999 ∧ (payL V ρ v s).2.2 ≤ s := by
  induction s with
  | zero => exact ⟨Nat.le_refl _, Nat.zero_le _, Nat.le_refl _⟩
  | succ s ih =>
    have := ih (fun t ht => h t (by omega))
    have := h s (by omega)
    unfold payL
    split
    · rename_i hc
      exact ⟨by dsimp only; omega, by dsimp only; omega, by dsimp only; omega⟩
    · omega

theorem c_X11_coinsFor {E : zE} {σ : zT} {tx : Nat × (Nat → Nat)} {bd : Nat × (Nat → Nat) × (Nat → Nat)} {sk : Nat × (Nat → Nat)} {tw : Nat × (Nat → Nat) × (Nat → Nat)} {xs : List Nat} {ld : Nat × (Nat → Nat)} {pa sh : Nat × (Nat → Nat → Nat)} {ru : Nat × (Nat → Nat) × (Nat → Nat)} {to : Nat × (Nat → Int64)} {b : Nat} (hC : ClsIs σ tx bd sk tw xs ld pa sh ru to) (hb : b < 2 ^ 12) (hRw : ∀ i, i < bd.1 → σ.2.1 0 1 i = nI (rew (vOf bd sk xs ld.1) ld.2 i)) : CalM E 2 yX11_coinsFor cX11_coinsFor 4 (some .int) [.ref (zA E 0 0), .int (nI b)] σ (fun r σ' => r = some (.int (nI (cns (vOf bd sk xs ld.1) ld.2 b bd.1))) ∧ σ' = σ) := by
  refine cal_of_go (own := RX11) rfl (by decide +kernel) (Nat.le_of_ble_eq_true rfl) ?_
  have hL := hC.2.2.2.2.2.1
  have hn := hL.b
  have hok := hL.1
  have hB0 := hC.2.2.1
  have hnc := hB0.1
  have loop : ∀ i : Nat, i ≤ bd.1 → GoM E 2 RX11 cX11_coinsFor 4 (some .int) (fun r σ' => r = some (.int (nI (cns (vOf bd sk xs ld.1) ld.2 b bd.1))) ∧ σ' = σ) σ 4 [(0, .ref (zA E 0 0)), (1, .int (nI b)), (2, .int (nI (cns (vOf bd sk xs ld.1) ld.2 b i))), (3, .int (nI i))] [] := by
    intro i
    induction hj : bd.1 - i using Nat.strongRecOn generalizing i with
    | ind z ih =>
      intro hi
      refine go_iload_n (i := 3) (pc := 4) dX11_coinsFor_4 rfl rfl ?_
      refine go_aload_n (i := 0) (pc := 5) dX11_coinsFor_5 rfl rfl ?_
      refine go_getr2 fl_X11_19 (pc := 6) dX11_coinsFor_6 (by first | rfl | (apply zL_ci <;> assumption) | (apply zR_ci <;> assumption)) (by first | rfl | (apply zL_in <;> first | assumption | decide) | (apply zR_in <;> first | assumption | decide)) (by first | rfl | (apply zL_fr0 <;> assumption) | (apply zL_fr1 <;> assumption) | (apply zR_fr0 <;> assumption) | (apply zR_fr1 <;> assumption) | (apply zR_fr2 <;> assumption) | (apply zR_fr3 <;> assumption)) ?_
      refine go_callV ml_X11_304 mt_X0_size (pc := 9) dX11_coinsFor_9 (c_X0_size hB0) (by first | rfl | (apply zL_cq <;> assumption) | (apply zR_cq <;> assumption)) rfl (by first | rfl | (apply zL_in <;> first | assumption | decide) | (apply zR_in <;> first | assumption | decide)) (by decide) (by decide) rfl rfl (Nat.le_of_ble_eq_true rfl) (fun r σ' hp => ?_)
      obtain ⟨rfl, hσ⟩ := hp
      rw [hσ]
      clear hσ σ'
      dsimp only [zRet]
      refine go_icmp_ge 47 (pc := 12) dX11_coinsFor_12 (by decide) (fun h12 => ?_) (fun h12 => ?_)
      · first | rw [nI_leI (by omega) (by omega)] at h12 | rw [zi_leN (by omega)] at h12 | rw [zi_Nle (by omega)] at h12 | rw [zi_le] at h12
        have ei : i = bd.1 := by omega
        subst ei
        refine go_iload_n (i := 2) (pc := 47) dX11_coinsFor_47 rfl rfl ?_
        refine go_ireturn (pc := 48) dX11_coinsFor_48 rfl ?_
        exact ⟨rfl, rfl⟩
      · first | rw [nI_leI (by omega) (by omega)] at h12 | rw [zi_leN (by omega)] at h12 | rw [zi_Nle (by omega)] at h12 | rw [zi_le] at h12
        refine go_iload_n (i := 3) (pc := 15) dX11_coinsFor_15 rfl rfl ?_
        refine go_aload_n (i := 0) (pc := 16) dX11_coinsFor_16 rfl rfl ?_
        refine go_getr2 fl_X11_87 (pc := 17) dX11_coinsFor_17 (by first | rfl | (apply zL_ci <;> assumption) | (apply zR_ci <;> assumption)) (by first | rfl | (apply zL_in <;> first | assumption | decide) | (apply zR_in <;> first | assumption | decide)) (by first | rfl | (apply zL_fr0 <;> assumption) | (apply zL_fr1 <;> assumption) | (apply zR_fr0 <;> assumption) | (apply zR_fr1 <;> assumption) | (apply zR_fr2 <;> assumption) | (apply zR_fr3 <;> assumption)) ?_
        refine go_alen (pc := 20) dX11_coinsFor_20 (by first | rfl | (apply zL_ar1 <;> assumption) | (apply zL_ar2 <;> assumption) | (apply zR_ar1 <;> assumption) | (apply zR_ar2 <;> assumption) | (apply zR_ar3 <;> assumption) | (apply zR_ar4 <;> assumption)) (by first | rfl | (apply zL_jn <;> first | assumption | decide) | (apply zR_jn <;> first | assumption | decide)) ?_
        refine go_icmp_ge 47 (pc := 21) dX11_coinsFor_21 (by decide) (fun h21 => ?_) (fun h21 => ?_)
        · first | rw [nI_leI (by omega) (by omega)] at h21 | rw [zi_leN (by omega)] at h21 | rw [zi_Nle (by omega)] at h21 | rw [zi_le] at h21
          omega
        · first | rw [nI_leI (by omega) (by omega)] at h21 | rw [zi_leN (by omega)] at h21 | rw [zi_Nle (by omega)] at h21 | rw [zi_le] at h21
          refine go_iload_n (i := 1) (pc := 24) dX11_coinsFor_24 rfl rfl ?_
          refine go_iload_n (i := 3) (pc := 25) dX11_coinsFor_25 rfl rfl ?_
          refine go_ishr (pc := 26) dX11_coinsFor_26 ?_
          refine go_iconst (nI 1) (pc := 27) dX11_coinsFor_27 (by decide) ?_
          refine go_iand (pc := 28) dX11_coinsFor_28 ?_
          rw [zbit hb (by omega)]
          refine go_if_eq 41 (pc := 29) dX11_coinsFor_29 (by decide) (fun h29 => ?_) (fun h29 => ?_)
          · rw [nI_if] at h29
            have es : cns (vOf bd sk xs ld.1) ld.2 b (i + 1) = cns (vOf bd sk xs ld.1) ld.2 b i := by rw [cns, sumN, if_neg h29]; rfl
            refine go_iincN (pc := 41) dX11_coinsFor_41 rfl (by decide) ?_
            refine go_goto 4 (pc := 44) dX11_coinsFor_44 (by decide) ?_
            rw [← es]
            exact ih (bd.1 - (i + 1)) (by omega) (i + 1) rfl (by omega)
          · rw [nI_if] at h29
            have es : cns (vOf bd sk xs ld.1) ld.2 b (i + 1) = cns (vOf bd sk xs ld.1) ld.2 b i + rew (vOf bd sk xs ld.1) ld.2 i := by rw [cns, sumN, if_pos (by simpa using h29)]; rfl
            refine go_iload_n (i := 2) (pc := 32) dX11_coinsFor_32 rfl rfl ?_
            refine go_aload_n (i := 0) (pc := 33) dX11_coinsFor_33 rfl rfl ?_
            refine go_getr2 fl_X11_87 (pc := 34) dX11_coinsFor_34 (by first | rfl | (apply zL_ci <;> assumption) | (apply zR_ci <;> assumption)) (by first | rfl | (apply zL_in <;> first | assumption | decide) | (apply zR_in <;> first | assumption | decide)) (by first | rfl | (apply zL_fr0 <;> assumption) | (apply zL_fr1 <;> assumption) | (apply zR_fr0 <;> assumption) | (apply zR_fr1 <;> assumption) | (apply zR_fr2 <;> assumption) | (apply zR_fr3 <;> assumption)) ?_
            refine go_iload_n (i := 3) (pc := 37) dX11_coinsFor_37 rfl rfl ?_
            refine go_iaload _ (pc := 38) dX11_coinsFor_38 (by first | rfl | (apply zL_ar1 <;> assumption) | (apply zL_ar2 <;> assumption) | (apply zR_ar1 <;> assumption) | (apply zR_ar2 <;> assumption) | (apply zR_ar3 <;> assumption) | (apply zR_ar4 <;> assumption)) (by first | rfl | (apply zL_jn <;> first | assumption | decide) | (apply zR_jn <;> first | assumption | decide)) rfl (by first | assumption | omega) ?_
            rw [hRw i (by omega)]
            first | with_reducible refine go_iaddN (pc := 39) dX11_coinsFor_39 ?_ | refine go_iadd (pc := 39) dX11_coinsFor_39 ?_
            refine go_istore_n (i := 2) (pc := 40) dX11_coinsFor_40 rfl (by decide) ?_
            refine go_iincN (pc := 41) dX11_coinsFor_41 rfl (by decide) ?_
            refine go_goto 4 (pc := 44) dX11_coinsFor_44 (by decide) ?_
            rw [← es]
            exact ih (bd.1 - (i + 1)) (by omega) (i + 1) rfl (by omega)
  refine go_iconst (nI 0) (pc := 0) dX11_coinsFor_0 (by decide) ?_
  refine go_istore_n (i := 2) (pc := 1) dX11_coinsFor_1 rfl (by decide) ?_
  refine go_iconst (nI 0) (pc := 2) dX11_coinsFor_2 (by decide) ?_
  refine go_istore_n (i := 3) (pc := 3) dX11_coinsFor_3 rfl (by decide) ?_
  exact loop 0 (by omega)

set_option maxRecDepth 4000 in
theorem c_X11_pays {E : zE} {σ : zT} {tx : Nat × (Nat → Nat)} {bd : Nat × (Nat → Nat) × (Nat → Nat)} {sk : Nat × (Nat → Nat)} {tw : Nat × (Nat → Nat) × (Nat → Nat)} {xs : List Nat} {ld : Nat × (Nat → Nat)} {pa sh : Nat × (Nat → Nat → Nat)} {ru : Nat × (Nat → Nat) × (Nat → Nat)} {to : Nat × (Nat → Int64)} {v : Int32} (hC : ClsIs σ tx bd sk tw xs ld pa sh ru to) : CalM E 7 yX11_pays cX11_pays 8 (some .int) [.ref (zA E 0 0), .int v] σ (fun r σ' => r = some (.int (if in0 v 999 then nI (payL (vOf bd sk xs ld.1) ld.2 v.toInt.toNat (2 ^ bd.1)).1 else -1)) ∧ ClsIs σ' tx bd sk tw xs ld pa sh ru (if in0 v 999 then (2, ln2 (lN (payL (vOf bd sk xs ld.1) ld.2 v.toInt.toNat (2 ^ bd.1)).2.2) (lN (payL (vOf bd sk xs ld.1) ld.2 v.toInt.toNat (2 ^ bd.1)).2.1)) else to) ∧ Fr33 σ σ') := by
  refine cal_of_go (own := RX11) rfl (by decide +kernel) (Nat.le_of_ble_eq_true rfl) ?_
  have hL := hC.2.2.2.2.2.1
  have hn := hL.b
  have hok := hL.1
  have hB0 := hC.2.2.1
  have hnc := hB0.1
  obtain ⟨kr0, hkr0, hz0, hR140, hW0⟩ := hC.w (kl := 6) rfl hL
  have hV := hW0.vok
  have hpw : 2 ^ bd.1 ≤ 2 ^ 8 := Nat.pow_le_pow_right (by decide) hnc
  have hcr : ∀ s, (crsA (vOf bd sk xs ld.1) s ld.2).2.1 ≤ 72 := fun s => Nat.le_trans (crs_ok (st := s) hV hok bd.1 (Nat.le_refl _)).2.2.1 (by omega)
  have hcb : ∀ s n, n ≤ bd.1 → cns (vOf bd sk xs ld.1) ld.2 s n ≤ 8 * 891 := fun s n hn => Nat.le_trans (sumN_le (c := 891) (fun i hi => by have := rew_le (V := vOf bd sk xs ld.1) (ρ := ld.2) (c := i) (hV.2.2.2.1 i (by show i < bd.1; omega)).2.2 hok.2.2.2.2.1 hok.2.2.2.2.2.1; split <;> omega)) (Nat.mul_le_mul_right 891 (by omega))
  have main : ∀ v1 : Nat, v1 ≤ 999 → GoM E 7 RX11 cX11_pays 8 (some .int) (fun r σ' => r = some (.int (nI (payL (vOf bd sk xs ld.1) ld.2 v1 (2 ^ bd.1)).1)) ∧ ClsIs σ' tx bd sk tw xs ld pa sh ru (2, ln2 (lN (payL (vOf bd sk xs ld.1) ld.2 v1 (2 ^ bd.1)).2.2) (lN (payL (vOf bd sk xs ld.1) ld.2 v1 (2 ^ bd.1)).2.1)) ∧ Fr33 σ σ') σ 13 [(0, .ref (zA E 0 0)), (1, .int (nI v1))] [] := by
    intro v1 hv1
    have loop2 : ∀ (i : Nat) (τ : zT), i ≤ 2 ^ bd.1 → (ClsIs τ tx bd sk tw xs ld pa sh ru to) → (Fr33 σ τ) → (∀ j, j < bd.1 → τ.2.1 0 1 j = nI (rew (vOf bd sk xs ld.1) ld.2 j)) → GoM E 7 RX11 cX11_pays 8 (some .int) (fun r σ' => r = some (.int (nI (payL (vOf bd sk xs ld.1) ld.2 v1 (2 ^ bd.1)).1)) ∧ ClsIs σ' tx bd sk tw xs ld pa sh ru (2, ln2 (lN (payL (vOf bd sk xs ld.1) ld.2 v1 (2 ^ bd.1)).2.2) (lN (payL (vOf bd sk xs ld.1) ld.2 v1 (2 ^ bd.1)).2.1)) ∧ Fr33 σ σ') τ 64 [(0, .ref (zA E 0 0)), (1, .int (nI v1)), (2, .int (nI (payL (vOf bd sk xs ld.1) ld.2 v1 i).1)), (3, .int (nI (payL (vOf bd sk xs ld.1) ld.2 v1 i).2.1)), (4, .int (nI (payL (vOf bd sk xs ld.1) ld.2 v1 i).2.2)), (5, .int (nI i))] [] := by
      intro i
      induction hj : 2 ^ bd.1 - i using Nat.strongRecOn generalizing i with
      | ind z ih =>
        intro τ hi hCt hF hRw
        have hpb := payL_b (s := i) hv1 (fun t _ => hcr t)
        have hcbi := hcb i bd.1 (Nat.le_refl _)
        have hcri := hcr i
        refine go_iload (pc := 64) dX11_pays_64 rfl ?_
        refine go_iconst (nI 1) (pc := 66) dX11_pays_66 (by decide) ?_
        refine go_aload_n (i := 0) (pc := 67) dX11_pays_67 rfl rfl ?_
        refine go_getr2 fl_X11_19 (pc := 68) dX11_pays_68 (by first | rfl | (apply zL_ci <;> assumption) | (apply zR_ci <;> assumption)) (by first | rfl | (apply zL_in <;> first | assumption | decide) | (apply zR_in <;> first | assumption | decide)) (by first | rfl | (apply zL_fr0 <;> assumption) | (apply zL_fr1 <;> assumption) | (apply zR_fr0 <;> assumption) | (apply zR_fr1 <;> assumption) | (apply zR_fr2 <;> assumption) | (apply zR_fr3 <;> assumption)) ?_
        refine go_callV ml_X11_304 mt_X0_size (pc := 71) dX11_pays_71 (c_X0_size hCt.2.2.1) (by first | rfl | (apply zL_cq <;> assumption) | (apply zR_cq <;> assumption)) rfl (by first | rfl | (apply zL_in <;> first | assumption | decide) | (apply zR_in <;> first | assumption | decide)) (by decide) (by decide) rfl rfl (Nat.le_of_ble_eq_true rfl) (fun r σ' hp => ?_)
        obtain ⟨rfl, hσ⟩ := hp
        rw [hσ]
        clear hσ σ'
        dsimp only [zRet]
        refine go_ishl (pc := 74) dX11_pays_74 ?_
        rw [zshlP _ (by omega)]
        refine go_icmp_ge 159 (pc := 75) dX11_pays_75 (by decide) (fun h75 => ?_) (fun h75 => ?_)
        · first | rw [nI_leI (by omega) (by omega)] at h75 | rw [zi_leN (by omega)] at h75 | rw [zi_Nle (by omega)] at h75 | rw [zi_le] at h75
          have ei : i = 2 ^ bd.1 := by omega
          subst ei
          refine go_aload_n (i := 0) (pc := 159) dX11_pays_159 rfl rfl ?_
          refine go_getr2 fl_X11_83 (pc := 160) dX11_pays_160 (by first | rfl | (apply zL_ci <;> assumption) | (apply zR_ci <;> assumption)) (by first | rfl | (apply zL_in <;> first | assumption | decide) | (apply zR_in <;> first | assumption | decide)) (by first | rfl | (apply zL_fr0 <;> assumption) | (apply zL_fr1 <;> assumption) | (apply zR_fr0 <;> assumption) | (apply zR_fr1 <;> assumption) | (apply zR_fr2 <;> assumption) | (apply zR_fr3 <;> assumption)) ?_
          refine go_iload (pc := 163) dX11_pays_163 rfl ?_
          refine go_i2l (pc := 165) dX11_pays_165 ?_
          rw [nI_l (by omega)]
          refine go_iload_n (i := 3) (pc := 166) dX11_pays_166 rfl rfl ?_
          refine go_i2l (pc := 167) dX11_pays_167 ?_
          rw [nI_l (by omega)]
          refine go_callV ml_X11_223 mt_X9_two (pc := 168) dX11_pays_168 (c_X9_two) (by first | rfl | (apply zL_cq <;> assumption) | (apply zR_cq <;> assumption)) rfl (by first | rfl | (apply zL_in <;> first | assumption | decide) | (apply zR_in <;> first | assumption | decide)) (by decide) (by decide) rfl rfl (Nat.le_of_ble_eq_true rfl) (fun r σ' hp => ?_)
          obtain ⟨rfl, hT4, hf4⟩ := hp
          dsimp only [zRet]
          refine go_iload_n (i := 2) (pc := 171) dX11_pays_171 rfl rfl ?_
          refine go_ireturn (pc := 172) dX11_pays_172 rfl ?_
          exact ⟨rfl, hCt.setTo (to' := (2, _)) hf4 hT4, hF.tr (Fr33.of hf4 (by simp))⟩
        · first | rw [nI_leI (by omega) (by omega)] at h75 | rw [zi_leN (by omega)] at h75 | rw [zi_Nle (by omega)] at h75 | rw [zi_le] at h75
          refine go_aload_n (i := 0) (pc := 78) dX11_pays_78 rfl rfl ?_
          refine go_iload (pc := 79) dX11_pays_79 rfl ?_
          refine go_callV ml_X11_354 mt_X11_coinsFor (pc := 81) dX11_pays_81 (c_X11_coinsFor hCt (by omega) hRw) (by first | rfl | (apply zL_cq <;> assumption) | (apply zR_cq <;> assumption)) rfl (by first | rfl | (apply zL_in <;> first | assumption | decide) | (apply zR_in <;> first | assumption | decide)) (by decide) (by decide) rfl rfl (Nat.le_of_ble_eq_true rfl) (fun r σ' hp => ?_)
          obtain ⟨rfl, hσ⟩ := hp
          rw [hσ]
          clear hσ σ'
          dsimp only [zRet]
          refine go_istore (pc := 84) dX11_pays_84 (by decide) ?_
          refine go_iload (pc := 86) dX11_pays_86 rfl ?_
          refine go_iload_n (i := 1) (pc := 88) dX11_pays_88 rfl rfl ?_
          refine go_icmp_le 95 (pc := 89) dX11_pays_89 (by decide) (fun h89 => ?_) (fun h89 => ?_)
          · first | rw [nI_leI (by omega) (by omega)] at h89 | rw [zi_leN (by omega)] at h89 | rw [zi_Nle (by omega)] at h89 | rw [zi_le] at h89
            refine go_aload_n (i := 0) (pc := 95) dX11_pays_95 rfl rfl ?_
            refine go_getr2 fl_X11_53 (pc := 96) dX11_pays_96 (by first | rfl | (apply zL_ci <;> assumption) | (apply zR_ci <;> assumption)) (by first | rfl | (apply zL_in <;> first | assumption | decide) | (apply zR_in <;> first | assumption | decide)) (by first | rfl | (apply zL_fr0 <;> assumption) | (apply zL_fr1 <;> assumption) | (apply zR_fr0 <;> assumption) | (apply zR_fr1 <;> assumption) | (apply zR_fr2 <;> assumption) | (apply zR_fr3 <;> assumption)) ?_
            refine go_aload_n (i := 0) (pc := 99) dX11_pays_99 rfl rfl ?_
            refine go_getr2 fl_X11_49 (pc := 100) dX11_pays_100 (by first | rfl | (apply zL_ci <;> assumption) | (apply zR_ci <;> assumption)) (by first | rfl | (apply zL_in <;> first | assumption | decide) | (apply zR_in <;> first | assumption | decide)) (by first | rfl | (apply zL_fr0 <;> assumption) | (apply zL_fr1 <;> assumption) | (apply zR_fr0 <;> assumption) | (apply zR_fr1 <;> assumption) | (apply zR_fr2 <;> assumption) | (apply zR_fr3 <;> assumption)) ?_
            refine go_callV ml_X11_198 mt_X2_copyFrom (pc := 103) dX11_pays_103 (c_X2_copyFrom rfl rfl hCt.2.2.2.2.2.1) (by first | rfl | (apply zL_cq <;> assumption) | (apply zR_cq <;> assumption)) rfl (by first | rfl | (apply zL_in <;> first | assumption | decide) | (apply zR_in <;> first | assumption | decide)) (by decide) (by decide) rfl rfl (Nat.le_of_ble_eq_true rfl) (fun r σ' hp => ?_)
            obtain ⟨rfl, hb, hf⟩ := hp
            dsimp only [zRet]
            have hC1 := hCt.fr hf (by simp)
            obtain ⟨kr, hkr, hz, hR14, hW⟩ := hC1.w (kl := 7) rfl hb
            refine go_aload_n (i := 0) (pc := 106) dX11_pays_106 rfl rfl ?_
            refine go_getr2 fl_X11_42 (pc := 107) dX11_pays_107 (by first | rfl | (apply zL_ci <;> assumption) | (apply zR_ci <;> assumption)) (by first | rfl | (apply zL_in <;> first | assumption | decide) | (apply zR_in <;> first | assumption | decide)) (by first | rfl | (apply zL_fr0 <;> assumption) | (apply zL_fr1 <;> assumption) | (apply zR_fr0 <;> assumption) | (apply zR_fr1 <;> assumption) | (apply zR_fr2 <;> assumption) | (apply zR_fr3 <;> assumption)) ?_
            refine go_aload_n (i := 0) (pc := 110) dX11_pays_110 rfl rfl ?_
            refine go_getR fl_X11_97 (pc := 111) dX11_pays_111 rfl ?_
            rw [hR14]
            refine go_aload_n (i := 0) (pc := 114) dX11_pays_114 rfl rfl ?_
            refine go_getr2 fl_X11_53 (pc := 115) dX11_pays_115 (by first | rfl | (apply zL_ci <;> assumption) | (apply zR_ci <;> assumption)) (by first | rfl | (apply zL_in <;> first | assumption | decide) | (apply zR_in <;> first | assumption | decide)) (by first | rfl | (apply zL_fr0 <;> assumption) | (apply zL_fr1 <;> assumption) | (apply zR_fr0 <;> assumption) | (apply zR_fr1 <;> assumption) | (apply zR_fr2 <;> assumption) | (apply zR_fr3 <;> assumption)) ?_
            refine go_iload (pc := 118) dX11_pays_118 rfl ?_
            refine go_callV ml_X11_288 mt_X1_cross (pc := 120) dX11_pays_120 (c_X1_cross hW (by omega)) (by first | rfl | (apply zL_cq <;> assumption) | (apply zR_cq <;> assumption)) rfl (by first | rfl | (apply zL_in <;> first | assumption | decide) | (apply zR_in <;> first | assumption | decide)) (by decide) (by decide) rfl rfl (Nat.le_of_ble_eq_true rfl) (fun r σ' hp => ?_)
            obtain ⟨rfl, hE4, hom, hW2, hf2, hE⟩ := hp
            dsimp only [zRet]
            have hC2 := hC1.try hz hR14 (Or.inl rfl) hf2 rfl hW2
            have hF2 := (hF.tr (Fr33.of hf (by simp))).tr (Fr33.of hf2 (by simp; omega))
            have hRw2 : ∀ j, j < bd.1 → σ'.2.1 0 1 j = nI (rew (vOf bd sk xs ld.1) ld.2 j) := fun j hj => by rw [(hf2.1 0 (by simp; omega)).2.1, (hf.1 0 (by simp)).2.1]; exact hRw j hj
            refine go_istore (pc := 123) dX11_pays_123 (by decide) ?_
            refine go_iload (pc := 125) dX11_pays_125 rfl ?_
            refine go_iload_n (i := 2) (pc := 127) dX11_pays_127 rfl rfl ?_
            refine go_icmp_lt 143 (pc := 128) dX11_pays_128 (by decide) (fun h128 => ?_) (fun h128 => ?_)
            · first | rw [nI_ltI (by omega) (by omega)] at h128 | rw [zi_ltN (by omega)] at h128 | rw [zi_Nlt (by omega)] at h128 | rw [zi_lt] at h128
              have es : payL (vOf bd sk xs ld.1) ld.2 v1 (i + 1) = ((crsA (vOf bd sk xs ld.1) i ld.2).2.1, cns (vOf bd sk xs ld.1) ld.2 i bd.1, i) := by rw [payL, if_pos ⟨(by omega : cns (vOf bd sk xs ld.1) ld.2 i bd.1 ≤ v1), (by omega : (crsA (vOf bd sk xs ld.1) i ld.2).2.1 < (payL (vOf bd sk xs ld.1) ld.2 v1 i).1 ∨ ((crsA (vOf bd sk xs ld.1) i ld.2).2.1 = (payL (vOf bd sk xs ld.1) ld.2 v1 i).1 ∧ cns (vOf bd sk xs ld.1) ld.2 i bd.1 < (payL (vOf bd sk xs ld.1) ld.2 v1 i).2.1))⟩]; rfl
              refine go_iload (pc := 143) dX11_pays_143 rfl ?_
              refine go_istore_n (i := 2) (pc := 145) dX11_pays_145 rfl (by decide) ?_
              refine go_iload (pc := 146) dX11_pays_146 rfl ?_
              refine go_istore_n (i := 3) (pc := 148) dX11_pays_148 rfl (by decide) ?_
              refine go_iload (pc := 149) dX11_pays_149 rfl ?_
              refine go_istore (pc := 151) dX11_pays_151 (by decide) ?_
              refine go_iincN (pc := 153) dX11_pays_153 rfl (by decide) ?_
              refine go_goto 64 (pc := 156) dX11_pays_156 (by decide) ?_
              refine go_drop [0, 1, 2, 3, 4, 5] rfl ?_
              have ih2 := ih (2 ^ bd.1 - (i + 1)) (by omega) (i + 1) rfl _ (by omega) hC2 hF2 hRw2
              rw [es] at ih2
              exact ih2
            · first | rw [nI_ltI (by omega) (by omega)] at h128 | rw [zi_ltN (by omega)] at h128 | rw [zi_Nlt (by omega)] at h128 | rw [zi_lt] at h128
              refine go_iload (pc := 131) dX11_pays_131 rfl ?_
              refine go_iload_n (i := 2) (pc := 133) dX11_pays_133 rfl rfl ?_
              refine go_icmp_ne 153 (pc := 134) dX11_pays_134 (by decide) (fun h134 => ?_) (fun h134 => ?_)
              · first | rw [nI_eq (by omega) (by omega)] at h134 | rw [zi_eqN (by omega)] at h134 | rw [zi_Neq (by omega)] at h134 | rw [zi_eq] at h134
                have es : payL (vOf bd sk xs ld.1) ld.2 v1 (i + 1) = payL (vOf bd sk xs ld.1) ld.2 v1 i := by rw [payL, if_neg (fun q => by have q1 : cns (vOf bd sk xs ld.1) ld.2 i bd.1 ≤ v1 := q.1; have q2 : _ ∨ ((crsA (vOf bd sk xs ld.1) i ld.2).2.1 = (payL (vOf bd sk xs ld.1) ld.2 v1 i).1 ∧ cns (vOf bd sk xs ld.1) ld.2 i bd.1 < (payL (vOf bd sk xs ld.1) ld.2 v1 i).2.1) := q.2; omega)]
                refine go_iincN (pc := 153) dX11_pays_153 rfl (by decide) ?_
                refine go_goto 64 (pc := 156) dX11_pays_156 (by decide) ?_
                refine go_drop [0, 1, 2, 3, 4, 5] rfl ?_
                have ih2 := ih (2 ^ bd.1 - (i + 1)) (by omega) (i + 1) rfl _ (by omega) hC2 hF2 hRw2
                rw [es] at ih2
                exact ih2
              · first | rw [nI_eq (by omega) (by omega)] at h134 | rw [zi_eqN (by omega)] at h134 | rw [zi_Neq (by omega)] at h134 | rw [zi_eq] at h134
                refine go_iload (pc := 137) dX11_pays_137 rfl ?_
                refine go_iload_n (i := 3) (pc := 139) dX11_pays_139 rfl rfl ?_
                refine go_icmp_ge 153 (pc := 140) dX11_pays_140 (by decide) (fun h140 => ?_) (fun h140 => ?_)
                · first | rw [nI_leI (by omega) (by omega)] at h140 | rw [zi_leN (by omega)] at h140 | rw [zi_Nle (by omega)] at h140 | rw [zi_le] at h140
                  have es : payL (vOf bd sk xs ld.1) ld.2 v1 (i + 1) = payL (vOf bd sk xs ld.1) ld.2 v1 i := by rw [payL, if_neg (fun q => by have q1 : cns (vOf bd sk xs ld.1) ld.2 i bd.1 ≤ v1 := q.1; have q2 : _ ∨ ((crsA (vOf bd sk xs ld.1) i ld.2).2.1 = (payL (vOf bd sk xs ld.1) ld.2 v1 i).1 ∧ cns (vOf bd sk xs ld.1) ld.2 i bd.1 < (payL (vOf bd sk xs ld.1) ld.2 v1 i).2.1) := q.2; omega)]
                  refine go_iincN (pc := 153) dX11_pays_153 rfl (by decide) ?_
                  refine go_goto 64 (pc := 156) dX11_pays_156 (by decide) ?_
                  refine go_drop [0, 1, 2, 3, 4, 5] rfl ?_
                  have ih2 := ih (2 ^ bd.1 - (i + 1)) (by omega) (i + 1) rfl _ (by omega) hC2 hF2 hRw2
                  rw [es] at ih2
                  exact ih2
                · first | rw [nI_leI (by omega) (by omega)] at h140 | rw [zi_leN (by omega)] at h140 | rw [zi_Nle (by omega)] at h140 | rw [zi_le] at h140
                  have es : payL (vOf bd sk xs ld.1) ld.2 v1 (i + 1) = ((crsA (vOf bd sk xs ld.1) i ld.2).2.1, cns (vOf bd sk xs ld.1) ld.2 i bd.1, i) := by rw [payL, if_pos ⟨(by omega : cns (vOf bd sk xs ld.1) ld.2 i bd.1 ≤ v1), (by omega : (crsA (vOf bd sk xs ld.1) i ld.2).2.1 < (payL (vOf bd sk xs ld.1) ld.2 v1 i).1 ∨ ((crsA (vOf bd sk xs ld.1) i ld.2).2.1 = (payL (vOf bd sk xs ld.1) ld.2 v1 i).1 ∧ cns (vOf bd sk xs ld.1) ld.2 i bd.1 < (payL (vOf bd sk xs ld.1) ld.2 v1 i).2.1))⟩]; rfl
                  refine go_iload (pc := 143) dX11_pays_143 rfl ?_
                  refine go_istore_n (i := 2) (pc := 145) dX11_pays_145 rfl (by decide) ?_
                  refine go_iload (pc := 146) dX11_pays_146 rfl ?_
                  refine go_istore_n (i := 3) (pc := 148) dX11_pays_148 rfl (by decide) ?_
                  refine go_iload (pc := 149) dX11_pays_149 rfl ?_
                  refine go_istore (pc := 151) dX11_pays_151 (by decide) ?_
                  refine go_iincN (pc := 153) dX11_pays_153 rfl (by decide) ?_
                  refine go_goto 64 (pc := 156) dX11_pays_156 (by decide) ?_
                  refine go_drop [0, 1, 2, 3, 4, 5] rfl ?_
                  have ih2 := ih (2 ^ bd.1 - (i + 1)) (by omega) (i + 1) rfl _ (by omega) hC2 hF2 hRw2
                  rw [es] at ih2
                  exact ih2
          · first | rw [nI_leI (by omega) (by omega)] at h89 | rw [zi_leN (by omega)] at h89 | rw [zi_Nle (by omega)] at h89 | rw [zi_le] at h89
            have es : payL (vOf bd sk xs ld.1) ld.2 v1 (i + 1) = payL (vOf bd sk xs ld.1) ld.2 v1 i := by rw [payL, if_neg (fun q => by have q1 : cns (vOf bd sk xs ld.1) ld.2 i bd.1 ≤ v1 := q.1; have q2 : _ ∨ ((crsA (vOf bd sk xs ld.1) i ld.2).2.1 = (payL (vOf bd sk xs ld.1) ld.2 v1 i).1 ∧ cns (vOf bd sk xs ld.1) ld.2 i bd.1 < (payL (vOf bd sk xs ld.1) ld.2 v1 i).2.1) := q.2; omega)]
            have hC2 := hCt
            have hF2 := hF
            have hRw2 := hRw
            refine go_goto 153 (pc := 92) dX11_pays_92 (by decide) ?_
            refine go_iincN (pc := 153) dX11_pays_153 rfl (by decide) ?_
            refine go_goto 64 (pc := 156) dX11_pays_156 (by decide) ?_
            refine go_drop [0, 1, 2, 3, 4, 5] rfl ?_
            have ih2 := ih (2 ^ bd.1 - (i + 1)) (by omega) (i + 1) rfl _ (by omega) hC2 hF2 hRw2
            rw [es] at ih2
            exact ih2
    have loop1 : ∀ (i : Nat) (τ : zT), i ≤ bd.1 → (ClsIs τ tx bd sk tw xs ld pa sh ru to) → (Fr33 σ τ) → (∀ j, j < i → τ.2.1 0 1 j = nI (rew (vOf bd sk xs ld.1) ld.2 j)) → GoM E 7 RX11 cX11_pays 8 (some .int) (fun r σ' => r = some (.int (nI (payL (vOf bd sk xs ld.1) ld.2 v1 (2 ^ bd.1)).1)) ∧ ClsIs σ' tx bd sk tw xs ld pa sh ru (2, ln2 (lN (payL (vOf bd sk xs ld.1) ld.2 v1 (2 ^ bd.1)).2.2) (lN (payL (vOf bd sk xs ld.1) ld.2 v1 (2 ^ bd.1)).2.1)) ∧ Fr33 σ σ') τ 15 [(0, .ref (zA E 0 0)), (1, .int (nI v1)), (2, .int (nI i))] [] := by
      intro i
      induction hj : bd.1 - i using Nat.strongRecOn generalizing i with
      | ind z ih =>
        intro τ hi hCt hF hRw
        refine go_iload_n (i := 2) (pc := 15) dX11_pays_15 rfl rfl ?_
        refine go_aload_n (i := 0) (pc := 16) dX11_pays_16 rfl rfl ?_
        refine go_getr2 fl_X11_19 (pc := 17) dX11_pays_17 (by first | rfl | (apply zL_ci <;> assumption) | (apply zR_ci <;> assumption)) (by first | rfl | (apply zL_in <;> first | assumption | decide) | (apply zR_in <;> first | assumption | decide)) (by first | rfl | (apply zL_fr0 <;> assumption) | (apply zL_fr1 <;> assumption) | (apply zR_fr0 <;> assumption) | (apply zR_fr1 <;> assumption) | (apply zR_fr2 <;> assumption) | (apply zR_fr3 <;> assumption)) ?_
        refine go_callV ml_X11_304 mt_X0_size (pc := 20) dX11_pays_20 (c_X0_size hCt.2.2.1) (by first | rfl | (apply zL_cq <;> assumption) | (apply zR_cq <;> assumption)) rfl (by first | rfl | (apply zL_in <;> first | assumption | decide) | (apply zR_in <;> first | assumption | decide)) (by decide) (by decide) rfl rfl (Nat.le_of_ble_eq_true rfl) (fun r σ' hp => ?_)
        obtain ⟨rfl, hσ⟩ := hp
        rw [hσ]
        clear hσ σ'
        dsimp only [zRet]
        refine go_icmp_ge 52 (pc := 23) dX11_pays_23 (by decide) (fun h23 => ?_) (fun h23 => ?_)
        · first | rw [nI_leI (by omega) (by omega)] at h23 | rw [zi_leN (by omega)] at h23 | rw [zi_Nle (by omega)] at h23 | rw [zi_le] at h23
          have ei : i = bd.1 := by omega
          subst ei
          refine go_ldcw (1000000) kc_X11_326 (pc := 52) dX11_pays_52 ?_
          rw [show (1000000 : Int32) = nI 1000000 from rfl]
          refine go_istore_n (i := 2) (pc := 55) dX11_pays_55 rfl (by decide) ?_
          refine go_iconst (nI 0) (pc := 56) dX11_pays_56 (by decide) ?_
          refine go_istore_n (i := 3) (pc := 57) dX11_pays_57 rfl (by decide) ?_
          refine go_iconst (nI 0) (pc := 58) dX11_pays_58 (by decide) ?_
          refine go_istore (pc := 59) dX11_pays_59 (by decide) ?_
          refine go_iconst (nI 0) (pc := 61) dX11_pays_61 (by decide) ?_
          refine go_istore (pc := 62) dX11_pays_62 (by decide) ?_
          exact loop2 0 _ (Nat.zero_le _) hCt hF hRw
        · first | rw [nI_leI (by omega) (by omega)] at h23 | rw [zi_leN (by omega)] at h23 | rw [zi_Nle (by omega)] at h23 | rw [zi_le] at h23
          refine go_iload_n (i := 2) (pc := 26) dX11_pays_26 rfl rfl ?_
          refine go_aload_n (i := 0) (pc := 27) dX11_pays_27 rfl rfl ?_
          refine go_getr2 fl_X11_87 (pc := 28) dX11_pays_28 (by first | rfl | (apply zL_ci <;> assumption) | (apply zR_ci <;> assumption)) (by first | rfl | (apply zL_in <;> first | assumption | decide) | (apply zR_in <;> first | assumption | decide)) (by first | rfl | (apply zL_fr0 <;> assumption) | (apply zL_fr1 <;> assumption) | (apply zR_fr0 <;> assumption) | (apply zR_fr1 <;> assumption) | (apply zR_fr2 <;> assumption) | (apply zR_fr3 <;> assumption)) ?_
          refine go_alen (pc := 31) dX11_pays_31 (by first | rfl | (apply zL_ar1 <;> assumption) | (apply zL_ar2 <;> assumption) | (apply zR_ar1 <;> assumption) | (apply zR_ar2 <;> assumption) | (apply zR_ar3 <;> assumption) | (apply zR_ar4 <;> assumption)) (by first | rfl | (apply zL_jn <;> first | assumption | decide) | (apply zR_jn <;> first | assumption | decide)) ?_
          refine go_icmp_ge 52 (pc := 32) dX11_pays_32 (by decide) (fun h32 => ?_) (fun h32 => ?_)
          · first | rw [nI_leI (by omega) (by omega)] at h32 | rw [zi_leN (by omega)] at h32 | rw [zi_Nle (by omega)] at h32 | rw [zi_le] at h32
            omega
          · first | rw [nI_leI (by omega) (by omega)] at h32 | rw [zi_leN (by omega)] at h32 | rw [zi_Nle (by omega)] at h32 | rw [zi_le] at h32
            refine go_aload_n (i := 0) (pc := 35) dX11_pays_35 rfl rfl ?_
            refine go_getr2 fl_X11_87 (pc := 36) dX11_pays_36 (by first | rfl | (apply zL_ci <;> assumption) | (apply zR_ci <;> assumption)) (by first | rfl | (apply zL_in <;> first | assumption | decide) | (apply zR_in <;> first | assumption | decide)) (by first | rfl | (apply zL_fr0 <;> assumption) | (apply zL_fr1 <;> assumption) | (apply zR_fr0 <;> assumption) | (apply zR_fr1 <;> assumption) | (apply zR_fr2 <;> assumption) | (apply zR_fr3 <;> assumption)) ?_
            refine go_iload_n (i := 2) (pc := 39) dX11_pays_39 rfl rfl ?_
            refine go_aload_n (i := 0) (pc := 40) dX11_pays_40 rfl rfl ?_
            refine go_iload_n (i := 2) (pc := 41) dX11_pays_41 rfl rfl ?_
            refine go_callV ml_X11_351 mt_X11_rewardOf (pc := 42) dX11_pays_42 (c_X11_rewardOf hCt (by omega)) (by first | rfl | (apply zL_cq <;> assumption) | (apply zR_cq <;> assumption)) rfl (by first | rfl | (apply zL_in <;> first | assumption | decide) | (apply zR_in <;> first | assumption | decide)) (by decide) (by decide) rfl rfl (Nat.le_of_ble_eq_true rfl) (fun r σ' hp => ?_)
            obtain ⟨rfl, hC2, kr, hz, hf⟩ := hp
            dsimp only [zRet]
            have hkr := zR_or hz
            refine go_iastore _ (pc := 45) dX11_pays_45 (by first | rfl | (apply zL_ar1 <;> assumption) | (apply zL_ar2 <;> assumption) | (apply zR_ar1 <;> assumption) | (apply zR_ar2 <;> assumption) | (apply zR_ar3 <;> assumption) | (apply zR_ar4 <;> assumption)) (by first | rfl | (apply zL_jn <;> first | assumption | decide) | (apply zR_jn <;> first | assumption | decide)) rfl (by first | assumption | omega) ?_
            refine go_iincN (pc := 46) dX11_pays_46 rfl (by decide) ?_
            refine go_goto 15 (pc := 49) dX11_pays_49 (by decide) ?_
            have hfu : FrG [0] σ' (uA σ' 0 1 (upd (σ'.2.1 0 1) i (nI (rew (vOf bd sk xs ld.1) ld.2 i)))) := FrG.rf.uA (by simp)
            exact ih (bd.1 - (i + 1)) (by omega) (i + 1) rfl _ (by omega) (hC2.fr hfu (by simp)) ((hF.tr (Fr33.of hf (by simp; omega))).tr (Fr33.of hfu (by simp))) (fun j hj => by rw [uA_s, upd_at]; split; rename_i e; rw [e]; rw [(hf.1 0 (by simp; omega)).2.1]; exact hRw j (by omega))
    refine go_iconst (nI 0) (pc := 13) dX11_pays_13 (by decide) ?_
    refine go_istore_n (i := 2) (pc := 14) dX11_pays_14 rfl (by decide) ?_
    exact loop1 0 _ (by omega) hC Fr33.rf (fun j hj => absurd hj (by omega))
  refine go_iload_n (i := 1) (pc := 0) dX11_pays_0 rfl rfl ?_
  refine go_if_lt 11 (pc := 1) dX11_pays_1 (by decide) (fun h1 => ?_) (fun h1 => ?_)
  · first | rw [zb_0d] at h1 | rw [zn_lt0 (by omega)] at h1 | rw [zi_lt0] at h1
    refine go_iconst (-1) (pc := 11) dX11_pays_11 (by decide) ?_
    refine go_ireturn (pc := 12) dX11_pays_12 rfl ?_
    rw [if_neg (by omega), if_neg (by omega)]
    exact ⟨rfl, hC, Fr33.rf⟩
  · first | rw [zb_0d] at h1 | rw [zn_lt0 (by omega)] at h1 | rw [zi_lt0] at h1
    refine go_iload_n (i := 1) (pc := 4) dX11_pays_4 rfl rfl ?_
    refine go_sipush (nI 999) (pc := 5) dX11_pays_5 (by decide) ?_
    refine go_icmp_le 13 (pc := 8) dX11_pays_8 (by decide) (fun h8 => ?_) (fun h8 => ?_)
    · first | rw [nI_leI (by omega) (by omega)] at h8 | rw [zi_leN (by omega)] at h8 | rw [zi_Nle (by omega)] at h8 | rw [zi_le] at h8
      rw [if_pos (by omega : in0 v 999), if_pos (by omega : in0 v 999)]
      have ev1 := nI_of' (x := v) (by omega)
      generalize hqv1 : v.toInt.toNat = v1 at ev1 ⊢
      have hv1 : v1 ≤ 999 := by omega
      subst ev1
      exact main v1 hv1
    · first | rw [nI_leI (by omega) (by omega)] at h8 | rw [zi_leN (by omega)] at h8 | rw [zi_Nle (by omega)] at h8 | rw [zi_le] at h8
      refine go_iconst (-1) (pc := 11) dX11_pays_11 (by decide) ?_
      refine go_ireturn (pc := 12) dX11_pays_12 rfl ?_
      rw [if_neg (by omega), if_neg (by omega)]
      exact ⟨rfl, hC, Fr33.rf⟩

theorem pow_b {b e : Nat} (hb : b ≤ 10) (he : e ≤ 12) : b ^ e ≤ 10 ^ 12 := Nat.le_trans (Nat.pow_le_pow_left hb e) (Nat.pow_le_pow_right (by decide) he)
def cho (n k : Nat) : Nat → Nat
  | 0 => 1
  | i + 1 => cho n k i * (n - k + (i + 1)) / (i + 1)
theorem cho_b : ∀ n : Nat, n < 11 → ∀ k : Nat, k < 11 → ∀ i : Nat, i < 11 → cho n k i ≤ 200000 := by decide +kernel
theorem lN_ne {a : Nat} (h : a < 2 ^ 63) (h0 : 0 < a) : ¬ lN a = 0 := by
  have := pk_lEQ (a := a) (b := 0) h (by decide)
  intro q
  have q2 : lN a = lN 0 := q
  rw [this] at q2
  omega

theorem c_X11_power {E : zE} {σ : zT} {b e : Nat} (hb : b ≤ 10) (he : e ≤ 12) : CalM E 0 yX11_power cX11_power 5 (some .long) [.int (nI b), .int (nI e)] σ (fun r σ' => r = some (.long (lN (b ^ e))) ∧ σ' = σ) := by
  refine cal_of_go (own := RX11) rfl (by decide +kernel) (Nat.le_of_ble_eq_true rfl) ?_
  have loop : ∀ i : Nat, i ≤ e → GoM E 0 RX11 cX11_power 5 (some .long) (fun r σ' => r = some (.long (lN (b ^ e))) ∧ σ' = σ) σ 5 [(0, .int (nI b)), (1, .int (nI e)), (2, .long (lN (b ^ i))), (4, .int (nI i))] [] := by
    intro i
    induction hj : e - i using Nat.strongRecOn generalizing i with
    | ind z ih =>
      intro hi
      have hp := pow_b hb (show i ≤ 12 by omega)
      refine go_iload (pc := 5) dX11_power_5 rfl ?_
      refine go_iload_n (i := 1) (pc := 7) dX11_power_7 rfl rfl ?_
      refine go_icmp_ge 22 (pc := 8) dX11_power_8 (by decide) (fun h8 => ?_) (fun h8 => ?_)
      · first | rw [nI_leI (by omega) (by omega)] at h8 | rw [zi_leN (by omega)] at h8 | rw [zi_Nle (by omega)] at h8 | rw [zi_le] at h8
        have ei : i = e := by omega
        subst ei
        refine go_lload_n (i := 2) (pc := 22) dX11_power_22 rfl rfl ?_
        refine go_lreturn (pc := 23) dX11_power_23 rfl ?_
        exact ⟨rfl, rfl⟩
      · first | rw [nI_leI (by omega) (by omega)] at h8 | rw [zi_leN (by omega)] at h8 | rw [zi_Nle (by omega)] at h8 | rw [zi_le] at h8
        refine go_lload_n (i := 2) (pc := 11) dX11_power_11 rfl rfl ?_
        refine go_iload_n (i := 0) (pc := 12) dX11_power_12 rfl rfl ?_
        refine go_i2l (pc := 13) dX11_power_13 ?_
        rw [nI_l (by omega)]
        refine go_lmul (pc := 14) dX11_power_14 ?_
        rw [lN_mul, ← Nat.pow_succ]
        refine go_lstore_n (i := 2) (pc := 15) dX11_power_15 rfl (by decide) ?_
        refine go_iincN (pc := 16) dX11_power_16 rfl (by decide) ?_
        refine go_goto 5 (pc := 19) dX11_power_19 (by decide) ?_
        exact ih (e - (i + 1)) (by omega) (i + 1) rfl (by omega)
  refine go_lconst (lN 1) (pc := 0) dX11_power_0 (by decide) ?_
  refine go_lstore_n (i := 2) (pc := 1) dX11_power_1 rfl (by decide) ?_
  refine go_iconst (nI 0) (pc := 2) dX11_power_2 (by decide) ?_
  refine go_istore (pc := 3) dX11_power_3 (by decide) ?_
  exact loop 0 (by omega)

theorem c_X11_choices {E : zE} {σ : zT} {n k : Nat} (hn : n ≤ 10) (hk : k ≤ n) : CalM E 0 yX11_choices cX11_choices 5 (some .long) [.int (nI n), .int (nI k)] σ (fun r σ' => r = some (.long (lN (cho n k k))) ∧ σ' = σ) := by
  refine cal_of_go (own := RX11) rfl (by decide +kernel) (Nat.le_of_ble_eq_true rfl) ?_
  have loop : ∀ i : Nat, i ≤ k → GoM E 0 RX11 cX11_choices 5 (some .long) (fun r σ' => r = some (.long (lN (cho n k k))) ∧ σ' = σ) σ 5 [(0, .int (nI n)), (1, .int (nI k)), (2, .long (lN (cho n k i))), (4, .int (nI (i + 1)))] [] := by
    intro i
    induction hj : k - i using Nat.strongRecOn generalizing i with
    | ind z ih =>
      intro hi
      have hp := cho_b n (by omega) k (by omega) i (by omega)
      have hp2 : cho n k i * (n - k + (i + 1)) ≤ 200000 * 20 := Nat.mul_le_mul hp (by omega)
      refine go_iload (pc := 5) dX11_choices_5 rfl ?_
      refine go_iload_n (i := 1) (pc := 7) dX11_choices_7 rfl rfl ?_
      refine go_icmp_gt 31 (pc := 8) dX11_choices_8 (by decide) (fun h8 => ?_) (fun h8 => ?_)
      · first | rw [nI_ltI (by omega) (by omega)] at h8 | rw [zi_ltN (by omega)] at h8 | rw [zi_Nlt (by omega)] at h8 | rw [zi_lt] at h8
        have ei : i = k := by omega
        subst ei
        refine go_lload_n (i := 2) (pc := 31) dX11_choices_31 rfl rfl ?_
        refine go_lreturn (pc := 32) dX11_choices_32 rfl ?_
        exact ⟨rfl, rfl⟩
      · first | rw [nI_ltI (by omega) (by omega)] at h8 | rw [zi_ltN (by omega)] at h8 | rw [zi_Nlt (by omega)] at h8 | rw [zi_lt] at h8
        refine go_lload_n (i := 2) (pc := 11) dX11_choices_11 rfl rfl ?_
        refine go_iload_n (i := 0) (pc := 12) dX11_choices_12 rfl rfl ?_
        refine go_iload_n (i := 1) (pc := 13) dX11_choices_13 rfl rfl ?_
        first | with_reducible refine go_isubN (pc := 14) dX11_choices_14 (by omega) ?_ | refine go_isub (pc := 14) dX11_choices_14 ?_
        refine go_iload (pc := 15) dX11_choices_15 rfl ?_
        first | with_reducible refine go_iaddN (pc := 17) dX11_choices_17 ?_ | refine go_iadd (pc := 17) dX11_choices_17 ?_
        refine go_i2l (pc := 18) dX11_choices_18 ?_
        rw [nI_l (by omega)]
        refine go_lmul (pc := 19) dX11_choices_19 ?_
        rw [lN_mul]
        refine go_iload (pc := 20) dX11_choices_20 rfl ?_
        refine go_i2l (pc := 22) dX11_choices_22 ?_
        rw [nI_l (by omega)]
        refine go_ldiv (pc := 23) dX11_choices_23 (lN_ne (by omega) (by omega)) ?_
        rw [pk_lDiv (by omega) (by omega) (by omega)]
        refine go_lstore_n (i := 2) (pc := 24) dX11_choices_24 rfl (by decide) ?_
        refine go_iincN (pc := 25) dX11_choices_25 rfl (by decide) ?_
        refine go_goto 5 (pc := 28) dX11_choices_28 (by decide) ?_
        exact ih (k - (i + 1)) (by omega) (i + 1) rfl (by omega)
  refine go_lconst (lN 1) (pc := 0) dX11_choices_0 (by decide) ?_
  refine go_lstore_n (i := 2) (pc := 1) dX11_choices_1 rfl (by decide) ?_
  refine go_iconst (nI 1) (pc := 2) dX11_choices_2 (by decide) ?_
  refine go_istore (pc := 3) dX11_choices_3 (by decide) ?_
  exact loop 0 (by omega)

theorem gcd_half {a b f : Nat} (hb : 0 < b) (h : b ≤ a) (hf : a * b < 2 ^ f) : b * (a % b) < 2 ^ (f - 1) ∧ 1 ≤ f := by
  have hm : a % b < b := Nat.mod_lt _ hb
  have h2 : 2 * (a % b) < a := by
    have h3 := Nat.div_add_mod a b
    have h4 : 1 ≤ a / b := Nat.div_pos h hb
    have h5 : b * 1 ≤ b * (a / b) := Nat.mul_le_mul_left b h4
    omega
  have h6 : 2 * (b * (a % b)) < a * b := by
    have : b * (2 * (a % b)) < b * a := Nat.mul_lt_mul_of_pos_left h2 hb
    rw [Nat.mul_comm a b]
    rw [show 2 * (b * (a % b)) = b * (2 * (a % b)) by rw [← Nat.mul_assoc, Nat.mul_comm 2 b, Nat.mul_assoc]]
    exact this
  have h7 : 1 ≤ f := by
    rcases Nat.eq_zero_or_pos f with e | e
    · subst e; have : 1 ≤ a * b := Nat.mul_pos (by omega) hb; omega
    · exact e
  refine ⟨?_, h7⟩
  have h8 : 2 ^ (f - 1 + 1) = 2 ^ (f - 1) * 2 := Nat.pow_succ ..
  rw [show f - 1 + 1 = f by omega] at h8
  omega

theorem c_X11_commonDivisor {E : zE} {σ : zT} {a0 b0 : Nat} (ha0 : a0 < 2 ^ 40) (hb0 : b0 < 2 ^ 40) : CalM E 0 yX11_commonDivisor cX11_commonDivisor 7 (some .long) [.long (lN a0), .long (lN b0)] σ (fun r σ' => r = some (.long (lN (Nat.gcd a0 b0))) ∧ σ' = σ) := by
  refine cal_of_go (own := RX11) rfl (by decide +kernel) (Nat.le_of_ble_eq_true rfl) ?_
  have loop : ∀ (f a b t : Nat), a < 2 ^ 40 → b < 2 ^ 40 → a * b < 2 ^ f → ((b ≤ a ∧ t + f ≤ 200) ∨ t + f + 1 ≤ 200) → Nat.gcd a b = Nat.gcd a0 b0 → GoM E 0 RX11 cX11_commonDivisor 7 (some .long) (fun r σ' => r = some (.long (lN (Nat.gcd a0 b0))) ∧ σ' = σ) σ 3 [(0, .long (lN a)), (2, .long (lN b)), (4, .int (nI t))] [] := by
    intro f a b t
    induction hm : 1000 - t using Nat.strongRecOn generalizing f a b t with
    | ind z ih =>
      intro ha hb hab hc hg
      refine go_iload (pc := 3) dX11_commonDivisor_3 rfl ?_
      refine go_sipush (nI 1000) (pc := 5) dX11_commonDivisor_5 (by decide) ?_
      refine go_icmp_ge 33 (pc := 8) dX11_commonDivisor_8 (by decide) (fun h8 => ?_) (fun h8 => ?_)
      · first | rw [nI_leI (by omega) (by omega)] at h8 | rw [zi_leN (by omega)] at h8 | rw [zi_Nle (by omega)] at h8 | rw [zi_le] at h8
        exfalso
        omega
      · first | rw [nI_leI (by omega) (by omega)] at h8 | rw [zi_leN (by omega)] at h8 | rw [zi_Nle (by omega)] at h8 | rw [zi_le] at h8
        refine go_lload_n (i := 2) (pc := 11) dX11_commonDivisor_11 rfl rfl ?_
        refine go_lconst (lN 0) (pc := 12) dX11_commonDivisor_12 (by decide) ?_
        refine go_lcmp (pc := 13) dX11_commonDivisor_13 ?_
        refine go_if_eq 33 (pc := 14) dX11_commonDivisor_14 (by decide) (fun h14 => ?_) (fun h14 => ?_)
        · rw [lg_cmp_eq, pk_lEQ (by omega) (by decide)] at h14
          have hb00 : b = 0 := h14
          refine go_lload_n (i := 0) (pc := 33) dX11_commonDivisor_33 rfl rfl ?_
          refine go_lreturn (pc := 34) dX11_commonDivisor_34 rfl ?_
          refine ⟨?_, rfl⟩
          first
            | (subst hb00; rw [← hg, Nat.gcd_zero_right])
            | omega
        · rw [lg_cmp_eq, pk_lEQ (by omega) (by decide)] at h14
          have hb1 : 0 < b := by omega
          have hmd : a % b < b := Nat.mod_lt _ hb1
          have hgg : Nat.gcd b (a % b) = Nat.gcd a0 b0 := by rw [← hg, Nat.gcd_comm, ← Nat.gcd_rec, Nat.gcd_comm]
          refine go_lload_n (i := 0) (pc := 17) dX11_commonDivisor_17 rfl rfl ?_
          refine go_lload_n (i := 2) (pc := 18) dX11_commonDivisor_18 rfl rfl ?_
          refine go_lrem (pc := 19) dX11_commonDivisor_19 (lN_ne (by omega) (by omega)) ?_
          rw [pk_lRem (by omega) (by omega) (by omega)]
          refine go_lstore (pc := 20) dX11_commonDivisor_20 (by decide) ?_
          refine go_lload_n (i := 2) (pc := 22) dX11_commonDivisor_22 rfl rfl ?_
          refine go_lstore_n (i := 0) (pc := 23) dX11_commonDivisor_23 rfl (by decide) ?_
          refine go_lload (pc := 24) dX11_commonDivisor_24 rfl ?_
          refine go_lstore_n (i := 2) (pc := 26) dX11_commonDivisor_26 rfl (by decide) ?_
          refine go_iincN (pc := 27) dX11_commonDivisor_27 rfl (by decide) ?_
          refine go_goto 3 (pc := 30) dX11_commonDivisor_30 (by decide) ?_
          refine go_drop [0, 1, 2] rfl ?_
          rcases hc with ⟨hc1, hc2⟩ | hc
          · obtain ⟨q1, q2⟩ := gcd_half hb1 hc1 hab
            exact ih (1000 - (t + 1)) (by omega) (f - 1) b (a % b) (t + 1) rfl hb (by omega) q1 (Or.inl ⟨by omega, by omega⟩) hgg
          · exact ih (1000 - (t + 1)) (by omega) f b (a % b) (t + 1) rfl hb (by omega) (Nat.lt_of_le_of_lt (by rw [Nat.mul_comm]; exact Nat.mul_le_mul_right b (Nat.mod_le a b)) hab) (Or.inl ⟨by omega, by omega⟩) hgg
  refine go_iconst (nI 0) (pc := 0) dX11_commonDivisor_0 (by decide) ?_
  refine go_istore (pc := 1) dX11_commonDivisor_1 (by decide) ?_
  exact loop 80 a0 b0 0 ha0 hb0 (Nat.lt_of_lt_of_le (Nat.mul_lt_mul'' ha0 hb0) (by decide)) (Or.inr (by decide)) rfl

