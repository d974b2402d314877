theorem c_X12_poorer {E : zE} {σ : zT} {ns v : Nat} {pe pu : Nat → Nat} (hS : SortIs σ ns pe pu) (hv : v < 2 ^ 31) : CalM E 0 yX12_poorer cX12_poorer 4 (some .int) [.ref (zA E 33 0), .int (nI v)] σ (fun r σ' => r = some (.int (nI (poor pe pu v ns))) ∧ σ' = σ) := by
  refine cal_of_go (own := RX12) rfl (by decide +kernel) (Nat.le_of_ble_eq_true rfl) ?_
  have hs8 := hS.1
  have hsb : ∀ i, i ≤ ns → sumN i (fun i => if pu i < v then pe i else 0) ≤ 8 * 99 := fun i hi => Nat.le_trans (sumN_le (c := 99) (fun q hq => by have := (hS.2.2 q (by omega)).2.2.2.1; split <;> omega)) (Nat.mul_le_mul_right 99 (by omega))
  have loop : ∀ i : Nat, i ≤ ns → GoM E 0 RX12 cX12_poorer 4 (some .int) (fun r σ' => r = some (.int (nI (poor pe pu v ns))) ∧ σ' = σ) σ 4 [(0, .ref (zA E 33 0)), (1, .int (nI v)), (2, .int (nI (sumN i (fun i => if pu i < v then pe i else 0)))), (3, .int (nI i))] [] := by
    intro i
    induction hz : ns - i using Nat.strongRecOn generalizing i with
    | ind z ih =>
      intro hi
      refine go_iload_n (i := 3) (pc := 4) dX12_poorer_4 rfl rfl ?_
      refine go_aload_n (i := 0) (pc := 5) dX12_poorer_5 rfl rfl ?_
      refine go_geti fl_X12_200 (pc := 6) dX12_poorer_6 (by rfl) ?_
      rw [hS.2.1]
      refine go_icmp_ge 41 (pc := 9) dX12_poorer_9 (by decide) (fun h9 => ?_) (fun h9 => ?_)
      · first | rw [nI_leI (by omega) (by omega)] at h9 | rw [zi_leN (by omega)] at h9 | rw [zi_Nle (by omega)] at h9 | rw [zi_le] at h9
        have e : i = ns := by omega
        subst e
        refine go_iload_n (i := 2) (pc := 41) dX12_poorer_41 rfl rfl ?_
        refine go_ireturn (pc := 42) dX12_poorer_42 rfl ?_
        exact ⟨rfl, rfl⟩
      · first | rw [nI_leI (by omega) (by omega)] at h9 | rw [zi_leN (by omega)] at h9 | rw [zi_Nle (by omega)] at h9 | rw [zi_le] at h9
        refine go_iload_n (i := 2) (pc := 12) dX12_poorer_12 rfl rfl ?_
        refine go_aload_n (i := 0) (pc := 13) dX12_poorer_13 rfl rfl ?_
        refine go_getr2 fl_X12_33 (pc := 14) dX12_poorer_14 (by rfl) (by rfl) (by rfl) ?_
        refine go_iload_n (i := 3) (pc := 17) dX12_poorer_17 rfl rfl ?_
        refine go_iaload _ (pc := 18) dX12_poorer_18 (by first | rfl | (apply zM_ar <;> assumption)) (by first | rfl | (apply zM_jn <;> assumption)) rfl (by first | assumption | omega) ?_
        have hp := hS.2.2 i (by omega)
        rw [hp.2.1]
        refine go_iload_n (i := 1) (pc := 19) dX12_poorer_19 rfl rfl ?_
        refine go_icmp_ge 32 (pc := 20) dX12_poorer_20 (by decide) (fun h20 => ?_) (fun h20 => ?_)
        · first | rw [nI_leI (by omega) (by omega)] at h20 | rw [zi_leN (by omega)] at h20 | rw [zi_Nle (by omega)] at h20 | rw [zi_le] at h20
          have es : sumN (i + 1) (fun i => if pu i < v then pe i else 0) = sumN i (fun i => if pu i < v then pe i else 0) + 0 := by rw [sumN, if_neg (by omega)]
          refine go_iconst (nI 0) (pc := 32) dX12_poorer_32 (by decide) ?_
          first | with_reducible refine go_iaddN (pc := 33) dX12_poorer_33 ?_ | refine go_iadd (pc := 33) dX12_poorer_33 ?_
          refine go_istore_n (i := 2) (pc := 34) dX12_poorer_34 rfl (by decide) ?_
          refine go_iincN (pc := 35) dX12_poorer_35 rfl (by decide) ?_
          refine go_goto 4 (pc := 38) dX12_poorer_38 (by decide) ?_
          rw [← es]
          exact ih (ns - (i + 1)) (by omega) (i + 1) rfl (by omega)
        · first | rw [nI_leI (by omega) (by omega)] at h20 | rw [zi_leN (by omega)] at h20 | rw [zi_Nle (by omega)] at h20 | rw [zi_le] at h20
          have es : sumN (i + 1) (fun i => if pu i < v then pe i else 0) = sumN i (fun i => if pu i < v then pe i else 0) + pe i := by rw [sumN, if_pos (by omega)]
          refine go_aload_n (i := 0) (pc := 23) dX12_poorer_23 rfl rfl ?_
          refine go_getr2 fl_X12_30 (pc := 24) dX12_poorer_24 (by rfl) (by rfl) (by rfl) ?_
          refine go_iload_n (i := 3) (pc := 27) dX12_poorer_27 rfl rfl ?_
          refine go_iaload _ (pc := 28) dX12_poorer_28 (by first | rfl | (apply zM_ar <;> assumption)) (by first | rfl | (apply zM_jn <;> assumption)) rfl (by first | assumption | omega) ?_
          rw [hp.1]
          refine go_goto 33 (pc := 29) dX12_poorer_29 (by decide) ?_
          first | with_reducible refine go_iaddN (pc := 33) dX12_poorer_33 ?_ | refine go_iadd (pc := 33) dX12_poorer_33 ?_
          refine go_istore_n (i := 2) (pc := 34) dX12_poorer_34 rfl (by decide) ?_
          refine go_iincN (pc := 35) dX12_poorer_35 rfl (by decide) ?_
          refine go_goto 4 (pc := 38) dX12_poorer_38 (by decide) ?_
          rw [← es]
          exact ih (ns - (i + 1)) (by omega) (i + 1) rfl (by omega)
  refine go_iconst (nI 0) (pc := 0) dX12_poorer_0 (by decide) ?_
  refine go_istore_n (i := 2) (pc := 1) dX12_poorer_1 rfl (by decide) ?_
  refine go_iconst (nI 0) (pc := 2) dX12_poorer_2 (by decide) ?_
  refine go_istore_n (i := 3) (pc := 3) dX12_poorer_3 rfl (by decide) ?_
  exact loop 0 (by omega)

theorem poor_all {ns : Nat} {pe pu : Nat → Nat} (h : ∀ i, i < ns → pu i ≤ 99) : poor pe pu 100 ns = sumN ns pe := sumN_congr (fun i hi => if_pos (by have := h i hi; omega))

theorem c_X12_allPeople {E : zE} {σ : zT} {ns : Nat} {pe pu : Nat → Nat} (hS : SortIs σ ns pe pu) : CalM E 1 yX12_allPeople cX12_allPeople 1 (some .int) [.ref (zA E 33 0)] σ (fun r σ' => r = some (.int (nI (sumN ns pe))) ∧ σ' = σ) := by
  refine cal_of_go (own := RX12) rfl (by decide +kernel) (Nat.le_of_ble_eq_true rfl) ?_
  refine go_aload_n (i := 0) (pc := 0) dX12_allPeople_0 rfl rfl ?_
  refine go_bipush (nI 100) (pc := 1) dX12_allPeople_1 (by decide) ?_
  refine go_callV ml_X12_365 mt_X12_poorer (pc := 3) dX12_allPeople_3 (c_X12_poorer hS (by decide)) (by rfl) rfl (by rfl) (by decide) (by decide) rfl rfl (Nat.le_of_ble_eq_true rfl) (fun r σ' hp => ?_)
  obtain ⟨rfl, hσ⟩ := hp
  rw [hσ]
  clear hσ σ'
  dsimp only [zRet]
  refine go_ireturn (pc := 6) dX12_allPeople_6 rfl ?_
  exact ⟨by rw [poor_all (fun i hi => (hS.2.2 i hi).2.2.2.2)], rfl⟩

theorem gM_max {e : Option Nat} {t : Nat} (ht : t < 2 ^ 31) (he : ∀ x, e = some x → x < 2 ^ 31) : (if (gM e).toInt < (nI t).toInt then nI t else gM e) = if better e t = true then nI t else gM e := by
  have h := gM_le ht he
  rw [zi_le] at h
  by_cases hb : better e t = true
  · have h1 : ¬ better e t = false := by rw [hb]; decide
    have h2 := mt h.mp h1
    rw [if_pos hb, if_pos (by omega)]
  · have h1 : better e t = false := by simpa using hb
    have h2 := h.mpr h1
    rw [if_neg hb, if_neg (by omega)]

theorem c_X12_tax {E : zE} {σ : zT} {tx : Nat × (Nat → Nat)} {bd : Nat × (Nat → Nat) × (Nat → Nat)} {sk : Nat × (Nat → Nat)} {tw : Nat × (Nat → Nat) × (Nat → Nat)} {xs : List Nat} {ld : Nat × (Nat → Nat)} {pa sh : Nat × (Nat → Nat → Nat)} {ru : Nat × (Nat → Nat) × (Nat → Nat)} {to : Nat × (Nat → Int64)} (hC : RefIs σ tx bd sk tw xs ld pa sh ru to) (hro : Roomy ld.2) : CalM E 10 yX12_tax cX12_tax 6 (some .int) [.ref (zA E 33 0)] σ (fun r σ' => r = some (.int (nI (taxL (taken (vOf bd sk xs ld.1) tw ld.2) 100).1)) ∧ RefIs σ' tx bd sk tw xs ld pa sh ru (2, ln2 (gM (taxL (taken (vOf bd sk xs ld.1) tw ld.2) 100).2).toInt64 (lN (poor tw.2.1 tw.2.2 (taxL (taken (vOf bd sk xs ld.1) tw ld.2) 100).1 tw.1))) ∧ FrG [33] σ σ') := by
  refine cal_of_go (own := RX12) rfl (by decide +kernel) (Nat.le_of_ble_eq_true rfl) ?_
  have hN := hC.2.2.2.2.2.1
  have hn : 1 ≤ ld.1 ∧ ld.1 ≤ 12 := ⟨hN.2.1.1, hN.2.1.2.1⟩
  have hV := hC.env.vok hN.2.1
  have hok := hN.2.1
  have hS := hC.2.2.2.2.1
  have hs8 := hS.1
  have hall : sumN tw.1 tw.2.1 ≤ 8 * 99 := Nat.le_trans (sumN_le (c := 99) (fun q hq => (hS.2.2 q hq).2.2.2.1)) (Nat.mul_le_mul_right 99 hs8)
  have htk : ∀ v, v < 100 → (taken (vOf bd sk xs ld.1) tw ld.2) v ≤ 99 * 792 := fun v hv => Nat.mul_le_mul (by omega) (by omega)
  have hl72 : ∀ v, v ≤ 99 → (crsA (vOf bd sk xs ld.1) 0 (va_up ld.2 26 v)).2.1 ≤ 72 := fun v hv => by
    have h3 := (crs_ok (st := 0) hV (show RowOK (vN (vOf bd sk xs ld.1)) (va_up ld.2 26 v) from hok.hi (Or.inr (Or.inl ⟨Or.inr rfl, hv⟩))) (vC (vOf bd sk xs ld.1)) (Nat.le_refl _)).2.2.1
    exact Nat.le_trans h3 (Nat.mul_le_mul_left 9 hV.2.2.1)
  have loop : ∀ (i : Nat) (τ : zT), i ≤ 100 → (Fr9 [0, 27, 28] [13, 14, 16, 8] σ τ) → GoM E 10 RX12 cX12_tax 6 (some .int) (fun r σ' => r = some (.int (nI (taxL (taken (vOf bd sk xs ld.1) tw ld.2) 100).1)) ∧ RefIs σ' tx bd sk tw xs ld pa sh ru (2, ln2 (gM (taxL (taken (vOf bd sk xs ld.1) tw ld.2) 100).2).toInt64 (lN (poor tw.2.1 tw.2.2 (taxL (taken (vOf bd sk xs ld.1) tw ld.2) 100).1 tw.1))) ∧ FrG [33] σ σ') τ 11 [(0, .ref (zA E 33 0)), (1, .int (nI (taxL (taken (vOf bd sk xs ld.1) tw ld.2) i).1)), (2, .int (gM (taxL (taken (vOf bd sk xs ld.1) tw ld.2) i).2)), (3, .int (nI i))] [] := by
    intro i
    induction hz : 100 - i using Nat.strongRecOn generalizing i with
    | ind z ih =>
      intro τ hi hF
      have hCt := hC.fr hF (by decide) (by decide)
      have hSt := hCt.2.2.2.2.1
      have htl := taxL_lt (taken (vOf bd sk xs ld.1) tw ld.2) i
      have htb := taxL_b (f := (taken (vOf bd sk xs ld.1) tw ld.2)) (i := i) (fun j hj => htk j (by omega))
      have hpl := poor_le tw.2.1 tw.2.2 i tw.1
      have hc99 := hok.2.2.2.2.1
      refine go_iload_n (i := 3) (pc := 11) dX12_tax_11 rfl rfl ?_
      refine go_bipush (nI 99) (pc := 12) dX12_tax_12 (by decide) ?_
      refine go_icmp_gt 82 (pc := 14) dX12_tax_14 (by decide) (fun h14 => ?_) (fun h14 => ?_)
      · first | rw [nI_ltI (by omega) (by omega)] at h14 | rw [zi_ltN (by omega)] at h14 | rw [zi_Nlt (by omega)] at h14 | rw [zi_lt] at h14
        have e : i = 100 := by omega
        subst e
        refine go_aload_n (i := 0) (pc := 82) dX12_tax_82 rfl rfl ?_
        refine go_iconst (nI 0) (pc := 83) dX12_tax_83 (by decide) ?_
        refine go_puti fp_X12_104 (pc := 84) dX12_tax_84 (by rfl) rfl rfl ?_
        have hFt : Fr9 [0, 1, 27, 28] [1, 13, 14, 16, 8] σ (uS τ 33 1 (nI 0)) := (hF.mono (by simp) (by simp)).uS (by simp)
        have hz1 : (uS τ 33 1 (nI 0)).1 33 1 = nI 0 := uS_s _ _ _ _
        refine go_aload_n (i := 0) (pc := 87) dX12_tax_87 rfl rfl ?_
        refine go_iload_n (i := 2) (pc := 88) dX12_tax_88 rfl rfl ?_
        refine go_i2l (pc := 89) dX12_tax_89 ?_
        refine go_callV ml_X12_333 mt_X12_enters (pc := 90) dX12_tax_90 (c_tell1 hz1) (by rfl) rfl (by rfl) (by decide) (by decide) rfl rfl (Nat.le_of_ble_eq_true rfl) (fun r σ' hp => ?_)
        obtain ⟨rfl, hT1, hF1⟩ := hp
        dsimp only [zRet]
        have hFu := hFt.tr (hF1.mono (by simp) (by simp))
        refine go_aload_n (i := 0) (pc := 93) dX12_tax_93 rfl rfl ?_
        refine go_aload_n (i := 0) (pc := 94) dX12_tax_94 rfl rfl ?_
        refine go_iload_n (i := 1) (pc := 95) dX12_tax_95 rfl rfl ?_
        refine go_callV ml_X12_365 mt_X12_poorer (pc := 96) dX12_tax_96 (c_X12_poorer ((hC.tell (to' := (1, ln1 _)) hFu (by decide) (by decide) hT1).2.2.2.2.1) (by omega)) (by rfl) rfl (by rfl) (by decide) (by decide) rfl rfl (Nat.le_of_ble_eq_true rfl) (fun r σ' hp => ?_)
        obtain ⟨rfl, hσ⟩ := hp
        rw [hσ]
        clear hσ
        dsimp only [zRet]
        refine go_i2l (pc := 99) dX12_tax_99 ?_
        rw [nI_l (by have := poor_le tw.2.1 tw.2.2 (taxL (taken (vOf bd sk xs ld.1) tw ld.2) 100).1 tw.1; omega)]
        refine go_callV ml_X12_333 mt_X12_enters (pc := 100) dX12_tax_100 (c_tell2 hT1) (by rfl) rfl (by rfl) (by decide) (by decide) rfl rfl (Nat.le_of_ble_eq_true rfl) (fun r σ' hp => ?_)
        obtain ⟨rfl, hT2, hF2⟩ := hp
        dsimp only [zRet]
        have hFv := hFu.tr (hF2.mono (by simp) (by simp))
        refine go_iload_n (i := 1) (pc := 103) dX12_tax_103 rfl rfl ?_
        refine go_ireturn (pc := 104) dX12_tax_104 rfl ?_
        exact ⟨rfl, hC.tell hFv (by decide) (by decide) hT2, hFv.1⟩
      · first | rw [nI_ltI (by omega) (by omega)] at h14 | rw [zi_ltN (by omega)] at h14 | rw [zi_Nlt (by omega)] at h14 | rw [zi_lt] at h14
        refine go_iconst (nI 0) (pc := 17) dX12_tax_17 (by decide) ?_
        refine go_aload_n (i := 0) (pc := 18) dX12_tax_18 rfl rfl ?_
        refine go_callV ml_X12_368 mt_X12_allPeople (pc := 19) dX12_tax_19 (c_X12_allPeople hSt) (by rfl) rfl (by rfl) (by decide) (by decide) rfl rfl (Nat.le_of_ble_eq_true rfl) (fun r σ' hp => ?_)
        obtain ⟨rfl, hσ⟩ := hp
        rw [hσ]
        clear hσ σ'
        dsimp only [zRet]
        refine go_aload_n (i := 0) (pc := 22) dX12_tax_22 rfl rfl ?_
        refine go_iload_n (i := 3) (pc := 23) dX12_tax_23 rfl rfl ?_
        refine go_callV ml_X12_365 mt_X12_poorer (pc := 24) dX12_tax_24 (c_X12_poorer hSt (by omega)) (by rfl) rfl (by rfl) (by decide) (by decide) rfl rfl (Nat.le_of_ble_eq_true rfl) (fun r σ' hp => ?_)
        obtain ⟨rfl, hσ⟩ := hp
        rw [hσ]
        clear hσ σ'
        dsimp only [zRet]
        refine go_isubN (pc := 27) dX12_tax_27 (by omega) ?_
        
        refine go_aload_n (i := 0) (pc := 28) dX12_tax_28 rfl rfl ?_
        refine go_iload_n (i := 3) (pc := 29) dX12_tax_29 rfl rfl ?_
        refine go_callV ml_X12_362 mt_X12_loadsAt (pc := 30) dX12_tax_30 (c_X12_loadsAt (V := (vOf bd sk xs ld.1)) (v := i) hCt.env hCt.2.2.2.2.2.1.2.2 hok (by omega) (by omega)) (by rfl) rfl (by rfl) (by decide) (by decide) rfl rfl (Nat.le_of_ble_eq_true rfl) (fun r σ2 hp => ?_)
        obtain ⟨rfl, hFd⟩ := hp
        dsimp only [zRet]
        have hF := hF.tr (hFd.mono (by simp) (by simp))
        have hCt := hC.fr hF (by decide) (by decide)
        have hlv := hl72 i (by omega)
        refine go_isub (pc := 33) dX12_tax_33 ?_
        refine go_callS ml_X12_244 mt_J9_max_7cf53 (pc := 34) dX12_tax_34 (c_J9_max_7cf53) (by decide) (by decide) rfl rfl (Nat.le_of_ble_eq_true rfl) (fun r σ' hp => ?_)
        obtain ⟨rfl, hσ⟩ := hp
        rw [hσ]
        clear hσ
        dsimp only [zRet]
        rw [maxSub (by omega) (by omega)]
        refine go_istore (pc := 37) dX12_tax_37 (by decide) ?_
        refine go_iconst (nI 0) (pc := 39) dX12_tax_39 (by decide) ?_
        refine go_iload_n (i := 3) (pc := 40) dX12_tax_40 rfl rfl ?_
        refine go_aload_n (i := 0) (pc := 41) dX12_tax_41 rfl rfl ?_
        refine go_getr2 fl_X12_36 (pc := 42) dX12_tax_42 (by rfl) (by rfl) (by rfl) ?_
        refine go_bipush (nI 25) (pc := 45) dX12_tax_45 (by decide) ?_
        refine go_iaload _ (pc := 47) dX12_tax_47 (by first | rfl | (apply zM_ar <;> assumption)) (by first | rfl | (apply zM_jn <;> assumption)) rfl (by first | assumption | omega) ?_
        rw [hCt.2.2.2.2.2.1.2.2 25 (by decide)]
        refine go_isub (pc := 48) dX12_tax_48 ?_
        refine go_callS ml_X12_244 mt_J9_max_7cf53 (pc := 49) dX12_tax_49 (c_J9_max_7cf53) (by decide) (by decide) rfl rfl (Nat.le_of_ble_eq_true rfl) (fun r σ' hp => ?_)
        obtain ⟨rfl, hσ⟩ := hp
        rw [hσ]
        clear hσ
        dsimp only [zRet]
        rw [maxSub (by omega) (by omega)]
        refine go_iload (pc := 52) dX12_tax_52 rfl ?_
        refine go_imulN (pc := 54) dX12_tax_54 ?_
        change GoM _ _ _ _ _ _ _ _ _ _ (.int (nI ((taken (vOf bd sk xs ld.1) tw ld.2) i)) :: _)
        refine go_istore (pc := 55) dX12_tax_55 (by decide) ?_
        refine go_iload (pc := 57) dX12_tax_57 rfl ?_
        refine go_iload_n (i := 2) (pc := 59) dX12_tax_59 rfl rfl ?_
        refine go_icmp_le 67 (pc := 60) dX12_tax_60 (by decide) (fun h60 => ?_) (fun h60 => ?_)
        · rw [gM_le (by have := htk i (by omega); omega) (fun x hx => by have := htb x hx; omega)] at h60
          have es : taxL (taken (vOf bd sk xs ld.1) tw ld.2) (i + 1) = taxL (taken (vOf bd sk xs ld.1) tw ld.2) i := by rw [taxL, if_neg (by rw [h60]; decide)]
          refine go_iload_n (i := 1) (pc := 67) dX12_tax_67 rfl rfl ?_
          refine go_istore_n (i := 1) (pc := 68) dX12_tax_68 rfl (by decide) ?_
          refine go_iload_n (i := 2) (pc := 69) dX12_tax_69 rfl rfl ?_
          refine go_iload (pc := 70) dX12_tax_70 rfl ?_
          refine go_callS ml_X12_244 mt_J9_max_7cf53 (pc := 72) dX12_tax_72 (c_J9_max_7cf53) (by decide) (by decide) rfl rfl (Nat.le_of_ble_eq_true rfl) (fun r σ' hp => ?_)
          obtain ⟨rfl, hσ⟩ := hp
          rw [hσ]
          clear hσ
          dsimp only [zRet]
          rw [gM_max (by have := htk i (by omega); omega) (fun x hx => by have := htb x hx; omega)]
          refine go_istore_n (i := 2) (pc := 75) dX12_tax_75 rfl (by decide) ?_
          refine go_iincN (pc := 76) dX12_tax_76 rfl (by decide) ?_
          refine go_goto 11 (pc := 79) dX12_tax_79 (by decide) ?_
          first
            | (rw [if_neg (by rw [h60]; decide), ← es]
               refine go_drop [0, 1, 2, 3] rfl ?_
               exact ih (100 - (i + 1)) (by omega) (i + 1) rfl _ (by omega) hF)
            | (rw [if_pos h60]
               refine go_drop [0, 1, 2, 3] rfl ?_
               have h := ih (100 - (i + 1)) (by omega) (i + 1) rfl σ2 (by omega) hF
               rw [es] at h
               exact h)
        · rw [gM_le (by have := htk i (by omega); omega) (fun x hx => by have := htb x hx; omega)] at h60
          have h60 : better (taxL (taken (vOf bd sk xs ld.1) tw ld.2) i).2 ((taken (vOf bd sk xs ld.1) tw ld.2) i) = true := by simpa using h60
          have es : taxL (taken (vOf bd sk xs ld.1) tw ld.2) (i + 1) = (i, some ((taken (vOf bd sk xs ld.1) tw ld.2) i)) := by rw [taxL, if_pos h60]
          refine go_iload_n (i := 3) (pc := 63) dX12_tax_63 rfl rfl ?_
          refine go_goto 68 (pc := 64) dX12_tax_64 (by decide) ?_
          refine go_istore_n (i := 1) (pc := 68) dX12_tax_68 rfl (by decide) ?_
          refine go_iload_n (i := 2) (pc := 69) dX12_tax_69 rfl rfl ?_
          refine go_iload (pc := 70) dX12_tax_70 rfl ?_
          refine go_callS ml_X12_244 mt_J9_max_7cf53 (pc := 72) dX12_tax_72 (c_J9_max_7cf53) (by decide) (by decide) rfl rfl (Nat.le_of_ble_eq_true rfl) (fun r σ' hp => ?_)
          obtain ⟨rfl, hσ⟩ := hp
          rw [hσ]
          clear hσ
          dsimp only [zRet]
          rw [gM_max (by have := htk i (by omega); omega) (fun x hx => by have := htb x hx; omega)]
          refine go_istore_n (i := 2) (pc := 75) dX12_tax_75 rfl (by decide) ?_
          refine go_iincN (pc := 76) dX12_tax_76 rfl (by decide) ?_
          refine go_goto 11 (pc := 79) dX12_tax_79 (by decide) ?_
          first
            | (rw [if_neg (by rw [h60]; decide), ← es]
               refine go_drop [0, 1, 2, 3] rfl ?_
               exact ih (100 - (i + 1)) (by omega) (i + 1) rfl _ (by omega) hF)
            | (rw [if_pos h60]
               refine go_drop [0, 1, 2, 3] rfl ?_
               have h := ih (100 - (i + 1)) (by omega) (i + 1) rfl σ2 (by omega) hF
               rw [es] at h
               exact h)
  refine go_aload_n (i := 0) (pc := 0) dX12_tax_0 rfl rfl ?_
  refine go_iconst (nI 0) (pc := 1) dX12_tax_1 (by decide) ?_
  refine go_puti fp_X12_97 (pc := 2) dX12_tax_2 (by rfl) rfl rfl ?_
  have hF : Fr9 [0, 27, 28] [13, 14, 16, 8] σ (uS σ 33 0 (nI 0)) := Fr9.rf.uS (by simp)
  refine go_iconst (nI 0) (pc := 5) dX12_tax_5 (by decide) ?_
  refine go_istore_n (i := 1) (pc := 6) dX12_tax_6 rfl (by decide) ?_
  refine go_iconst (-1) (pc := 7) dX12_tax_7 (by decide) ?_
  refine go_istore_n (i := 2) (pc := 8) dX12_tax_8 rfl (by decide) ?_
  refine go_iconst (nI 0) (pc := 9) dX12_tax_9 (by decide) ?_
  refine go_istore_n (i := 3) (pc := 10) dX12_tax_10 rfl (by decide) ?_
  exact loop 0 _ (by omega) hF

theorem c_X12_without {E : zE} {σ : zT} {tx : Nat × (Nat → Nat)} {bd : Nat × (Nat → Nat) × (Nat → Nat)} {sk : Nat × (Nat → Nat)} {tw : Nat × (Nat → Nat) × (Nat → Nat)} {xs : List Nat} {ld : Nat × (Nat → Nat)} {pa sh : Nat × (Nat → Nat → Nat)} {ru : Nat × (Nat → Nat) × (Nat → Nat)} {to : Nat × (Nat → Int64)} {v : Int32} (hC : RefIs σ tx bd sk tw xs ld pa sh ru to) : CalM E 1 yX12_without cX12_without 5 (some .int) [.ref (zA E 33 0), .int v] σ (fun r σ' => r = some (.int (if in0 v 99 then nI (poor tw.2.1 tw.2.2 v.toInt.toNat tw.1) else -1)) ∧ RefIs σ' tx bd sk tw xs ld pa sh ru (if in0 v 99 then (2, ln2 (lN (poorB tw.2.2 v.toInt.toNat tw.1)) (lN (wout tw.2.1 tw.2.2 tw.1 (poor tw.2.1 tw.2.2 v.toInt.toNat tw.1 / 2) v.toInt.toNat))) else to) ∧ FrG [33] σ σ') := by
  refine cal_of_go (own := RX12) rfl (by decide +kernel) (Nat.le_of_ble_eq_true rfl) ?_
  have hS := hC.2.2.2.2.1
  have hs8 := hS.1
  have hall : sumN tw.1 tw.2.1 ≤ 8 * 99 := Nat.le_trans (sumN_le (c := 99) (fun q hq => (hS.2.2 q hq).2.2.2.1)) (Nat.mul_le_mul_right 99 hs8)
  have main : ∀ v1 : Nat, v1 ≤ 99 → ∀ τ, Fr9 [0, 27, 28] [13, 14, 16, 8] σ τ → GoM E 1 RX12 cX12_without 5 (some .int) (fun r σ' => r = some (.int (nI (poor tw.2.1 tw.2.2 v1 tw.1))) ∧ RefIs σ' tx bd sk tw xs ld pa sh ru (2, ln2 (lN (poorB tw.2.2 v1 tw.1)) (lN (wout tw.2.1 tw.2.2 tw.1 ((poor tw.2.1 tw.2.2 v1 tw.1) / 2) v1))) ∧ FrG [33] σ σ') τ 25 [(0, .ref (zA E 33 0)), (1, .int (nI v1)), (2, .int (nI (poor tw.2.1 tw.2.2 v1 tw.1)))] [] := by
    intro v1 hv1 τ hF
    have hCt := hC.fr hF (by decide) (by decide)
    have hSt := hCt.2.2.2.2.1
    have hpb : poorB tw.2.2 v1 tw.1 < 2 ^ 8 := Nat.lt_of_lt_of_le (bits_lt tw.1) (Nat.pow_le_pow_right (by decide) hs8)
    have hpl := poor_le tw.2.1 tw.2.2 v1 tw.1
    have lo2 : ∀ p : Nat, p ≤ v1 → wout tw.2.1 tw.2.2 tw.1 ((poor tw.2.1 tw.2.2 v1 tw.1) / 2) v1 = wout tw.2.1 tw.2.2 tw.1 ((poor tw.2.1 tw.2.2 v1 tw.1) / 2) p → GoM E 1 RX12 cX12_without 5 (some .int) (fun r σ' => r = some (.int (nI (poor tw.2.1 tw.2.2 v1 tw.1))) ∧ RefIs σ' tx bd sk tw xs ld pa sh ru (2, ln2 (lN (poorB tw.2.2 v1 tw.1)) (lN (wout tw.2.1 tw.2.2 tw.1 ((poor tw.2.1 tw.2.2 v1 tw.1) / 2) v1))) ∧ FrG [33] σ σ') τ 70 [(0, .ref (zA E 33 0)), (1, .int (nI v1)), (2, .int (nI (poor tw.2.1 tw.2.2 v1 tw.1))), (3, .int (nI (poorB tw.2.2 v1 tw.1))), (4, .int (nI p))] [] := by
      intro p
      induction p with
      | zero =>
        intro hp hw
        have hp0 : poor tw.2.1 tw.2.2 0 tw.1 = 0 := sumN_0 (fun i hi => if_neg (by omega))
        refine go_aload_n (i := 0) (pc := 70) dX12_without_70 rfl rfl ?_
        refine go_iload (pc := 71) dX12_without_71 rfl ?_
        refine go_callV ml_X12_365 mt_X12_poorer (pc := 73) dX12_without_73 (c_X12_poorer hSt (by omega)) (by rfl) rfl (by rfl) (by decide) (by decide) rfl rfl (Nat.le_of_ble_eq_true rfl) (fun r σ' hp => ?_)
        obtain ⟨rfl, hσ⟩ := hp
        rw [hσ]
        clear hσ
        dsimp only [zRet]
        refine go_iload_n (i := 2) (pc := 76) dX12_without_76 rfl rfl ?_
        refine go_iconst (nI 2) (pc := 77) dX12_without_77 (by decide) ?_
        refine go_idiv (pc := 78) dX12_without_78 (by decide) ?_
        rw [pk_div (by omega) (by decide) (by decide)]
        refine go_icmp_le 88 (pc := 79) dX12_without_79 (by decide) (fun h79 => ?_) (fun h79 => ?_)
        · first | rw [nI_leI (by omega) (by omega)] at h79 | rw [zi_leN (by omega)] at h79 | rw [zi_Nle (by omega)] at h79 | rw [zi_le] at h79
          refine go_aload_n (i := 0) (pc := 88) dX12_without_88 rfl rfl ?_
          refine go_iconst (nI 0) (pc := 89) dX12_without_89 (by decide) ?_
          refine go_puti fp_X12_104 (pc := 90) dX12_without_90 (by rfl) rfl rfl ?_
          have hFt : Fr9 [0, 1, 27, 28] [1, 13, 14, 16, 8] σ (uS τ 33 1 (nI 0)) := (hF.mono (by simp) (by simp)).uS (by simp)
          have hz1 : (uS τ 33 1 (nI 0)).1 33 1 = nI 0 := uS_s _ _ _ _
          refine go_aload_n (i := 0) (pc := 93) dX12_without_93 rfl rfl ?_
          refine go_iload_n (i := 3) (pc := 94) dX12_without_94 rfl rfl ?_
          refine go_i2l (pc := 95) dX12_without_95 ?_
          rw [nI_l (by omega)]
          refine go_callV ml_X12_333 mt_X12_enters (pc := 96) dX12_without_96 (c_tell1 hz1) (by rfl) rfl (by rfl) (by decide) (by decide) rfl rfl (Nat.le_of_ble_eq_true rfl) (fun r σ' hp => ?_)
          obtain ⟨rfl, hT1, hF1⟩ := hp
          dsimp only [zRet]
          have hFu := hFt.tr (hF1.mono (by simp) (by simp))
          refine go_aload_n (i := 0) (pc := 99) dX12_without_99 rfl rfl ?_
          refine go_iload (pc := 100) dX12_without_100 rfl ?_
          refine go_i2l (pc := 102) dX12_without_102 ?_
          rw [nI_l (by omega)]
          refine go_callV ml_X12_333 mt_X12_enters (pc := 103) dX12_without_103 (c_tell2 hT1) (by rfl) rfl (by rfl) (by decide) (by decide) rfl rfl (Nat.le_of_ble_eq_true rfl) (fun r σ' hp => ?_)
          obtain ⟨rfl, hT2, hF2⟩ := hp
          dsimp only [zRet]
          have hFv := hFu.tr (hF2.mono (by simp) (by simp))
          refine go_iload_n (i := 2) (pc := 106) dX12_without_106 rfl rfl ?_
          refine go_ireturn (pc := 107) dX12_without_107 rfl ?_
          rw [hw]
          exact ⟨rfl, hC.tell hFv (by decide) (by decide) hT2, hFv.1⟩
        · first | rw [nI_leI (by omega) (by omega)] at h79 | rw [zi_leN (by omega)] at h79 | rw [zi_Nle (by omega)] at h79 | rw [zi_le] at h79
          rw [hp0] at h79
          omega
      | succ p ihp =>
        intro hp hw
        have hpp := poor_le tw.2.1 tw.2.2 (p + 1) tw.1
        refine go_aload_n (i := 0) (pc := 70) dX12_without_70 rfl rfl ?_
        refine go_iload (pc := 71) dX12_without_71 rfl ?_
        refine go_callV ml_X12_365 mt_X12_poorer (pc := 73) dX12_without_73 (c_X12_poorer hSt (by omega)) (by rfl) rfl (by rfl) (by decide) (by decide) rfl rfl (Nat.le_of_ble_eq_true rfl) (fun r σ' hp => ?_)
        obtain ⟨rfl, hσ⟩ := hp
        rw [hσ]
        clear hσ
        dsimp only [zRet]
        refine go_iload_n (i := 2) (pc := 76) dX12_without_76 rfl rfl ?_
        refine go_iconst (nI 2) (pc := 77) dX12_without_77 (by decide) ?_
        refine go_idiv (pc := 78) dX12_without_78 (by decide) ?_
        rw [pk_div (by omega) (by decide) (by decide)]
        refine go_icmp_le 88 (pc := 79) dX12_without_79 (by decide) (fun h79 => ?_) (fun h79 => ?_)
        · first | rw [nI_leI (by omega) (by omega)] at h79 | rw [zi_leN (by omega)] at h79 | rw [zi_Nle (by omega)] at h79 | rw [zi_le] at h79
          refine go_aload_n (i := 0) (pc := 88) dX12_without_88 rfl rfl ?_
          refine go_iconst (nI 0) (pc := 89) dX12_without_89 (by decide) ?_
          refine go_puti fp_X12_104 (pc := 90) dX12_without_90 (by rfl) rfl rfl ?_
          have hFt : Fr9 [0, 1, 27, 28] [1, 13, 14, 16, 8] σ (uS τ 33 1 (nI 0)) := (hF.mono (by simp) (by simp)).uS (by simp)
          have hz1 : (uS τ 33 1 (nI 0)).1 33 1 = nI 0 := uS_s _ _ _ _
          refine go_aload_n (i := 0) (pc := 93) dX12_without_93 rfl rfl ?_
          refine go_iload_n (i := 3) (pc := 94) dX12_without_94 rfl rfl ?_
          refine go_i2l (pc := 95) dX12_without_95 ?_
          rw [nI_l (by omega)]
          refine go_callV ml_X12_333 mt_X12_enters (pc := 96) dX12_without_96 (c_tell1 hz1) (by rfl) rfl (by rfl) (by decide) (by decide) rfl rfl (Nat.le_of_ble_eq_true rfl) (fun r σ' hp => ?_)
          obtain ⟨rfl, hT1, hF1⟩ := hp
          dsimp only [zRet]
          have hFu := hFt.tr (hF1.mono (by simp) (by simp))
          refine go_aload_n (i := 0) (pc := 99) dX12_without_99 rfl rfl ?_
          refine go_iload (pc := 100) dX12_without_100 rfl ?_
          refine go_i2l (pc := 102) dX12_without_102 ?_
          rw [nI_l (by omega)]
          refine go_callV ml_X12_333 mt_X12_enters (pc := 103) dX12_without_103 (c_tell2 hT1) (by rfl) rfl (by rfl) (by decide) (by decide) rfl rfl (Nat.le_of_ble_eq_true rfl) (fun r σ' hp => ?_)
          obtain ⟨rfl, hT2, hF2⟩ := hp
          dsimp only [zRet]
          have hFv := hFu.tr (hF2.mono (by simp) (by simp))
          refine go_iload_n (i := 2) (pc := 106) dX12_without_106 rfl rfl ?_
          refine go_ireturn (pc := 107) dX12_without_107 rfl ?_
          rw [hw, wout, if_neg (by omega)]
          exact ⟨rfl, hC.tell hFv (by decide) (by decide) hT2, hFv.1⟩
        · first | rw [nI_leI (by omega) (by omega)] at h79 | rw [zi_leN (by omega)] at h79 | rw [zi_Nle (by omega)] at h79 | rw [zi_le] at h79
          refine go_iinc (nI p) (pc := 82) dX12_without_82 rfl (by rw [show Int32.ofInt (-1) = -nI 1 by decide, ← Int32.sub_eq_add_neg, pk_sub (by omega)]; rfl) (by decide) ?_
          refine go_goto 70 (pc := 85) dX12_without_85 (by decide) ?_
          refine ihp (by omega) ?_
          rw [hw, wout, if_pos (by omega)]
    have lo1 : ∀ i : Nat, i ≤ tw.1 → GoM E 1 RX12 cX12_without 5 (some .int) (fun r σ' => r = some (.int (nI (poor tw.2.1 tw.2.2 v1 tw.1))) ∧ RefIs σ' tx bd sk tw xs ld pa sh ru (2, ln2 (lN (poorB tw.2.2 v1 tw.1)) (lN (wout tw.2.1 tw.2.2 tw.1 ((poor tw.2.1 tw.2.2 v1 tw.1) / 2) v1))) ∧ FrG [33] σ σ') τ 30 [(0, .ref (zA E 33 0)), (1, .int (nI v1)), (2, .int (nI (poor tw.2.1 tw.2.2 v1 tw.1))), (3, .int (nI (sumN i (fun i => if tw.2.2 i < v1 then 2 ^ i else 0)))), (4, .int (nI i))] [] := by
      intro i
      induction hz : tw.1 - i using Nat.strongRecOn generalizing i with
      | ind z ih =>
        intro hi
        have hb := bits_lt (b := fun i => tw.2.2 i < v1) i
        refine go_iload (pc := 30) dX12_without_30 rfl ?_
        refine go_aload_n (i := 0) (pc := 32) dX12_without_32 rfl rfl ?_
        refine go_geti fl_X12_200 (pc := 33) dX12_without_33 (by rfl) ?_
        rw [hSt.2.1]
        refine go_icmp_ge 67 (pc := 36) dX12_without_36 (by decide) (fun h36 => ?_) (fun h36 => ?_)
        · first | rw [nI_leI (by omega) (by omega)] at h36 | rw [zi_leN (by omega)] at h36 | rw [zi_Nle (by omega)] at h36 | rw [zi_le] at h36
          have e : i = tw.1 := by omega
          subst e
          refine go_iload_n (i := 1) (pc := 67) dX12_without_67 rfl rfl ?_
          refine go_istore (pc := 68) dX12_without_68 (by decide) ?_
          exact lo2 v1 (Nat.le_refl _) rfl
        · first | rw [nI_leI (by omega) (by omega)] at h36 | rw [zi_leN (by omega)] at h36 | rw [zi_Nle (by omega)] at h36 | rw [zi_le] at h36
          refine go_iload_n (i := 3) (pc := 39) dX12_without_39 rfl rfl ?_
          refine go_aload_n (i := 0) (pc := 40) dX12_without_40 rfl rfl ?_
          refine go_getr2 fl_X12_33 (pc := 41) dX12_without_41 (by rfl) (by rfl) (by rfl) ?_
          refine go_iload (pc := 44) dX12_without_44 rfl ?_
          refine go_iaload _ (pc := 46) dX12_without_46 (by first | rfl | (apply zM_ar <;> assumption)) (by first | rfl | (apply zM_jn <;> assumption)) rfl (by first | assumption | omega) ?_
          have hp := hSt.2.2 i (by omega)
          rw [hp.2.1]
          refine go_iload_n (i := 1) (pc := 47) dX12_without_47 rfl rfl ?_
          refine go_icmp_ge 58 (pc := 48) dX12_without_48 (by decide) (fun h48 => ?_) (fun h48 => ?_)
          · first | rw [nI_leI (by omega) (by omega)] at h48 | rw [zi_leN (by omega)] at h48 | rw [zi_Nle (by omega)] at h48 | rw [zi_le] at h48
            have es : sumN (i + 1) (fun i => if tw.2.2 i < v1 then 2 ^ i else 0) = sumN i (fun i => if tw.2.2 i < v1 then 2 ^ i else 0) := by rw [sumN, if_neg (by omega), Nat.add_zero]
            refine go_iconst (nI 0) (pc := 58) dX12_without_58 (by decide) ?_
            refine go_ior (pc := 59) dX12_without_59 ?_
            first | rw [zor2 hb (by omega)] | rw [zorN, Nat.or_zero]
            refine go_istore_n (i := 3) (pc := 60) dX12_without_60 rfl (by decide) ?_
            refine go_iincN (pc := 61) dX12_without_61 rfl (by decide) ?_
            refine go_goto 30 (pc := 64) dX12_without_64 (by decide) ?_
            rw [← es]
            exact ih (tw.1 - (i + 1)) (by omega) (i + 1) rfl (by omega)
          · first | rw [nI_leI (by omega) (by omega)] at h48 | rw [zi_leN (by omega)] at h48 | rw [zi_Nle (by omega)] at h48 | rw [zi_le] at h48
            have es : sumN (i + 1) (fun i => if tw.2.2 i < v1 then 2 ^ i else 0) = sumN i (fun i => if tw.2.2 i < v1 then 2 ^ i else 0) + 2 ^ i := by rw [sumN, if_pos (by omega)]
            refine go_iconst (nI 1) (pc := 51) dX12_without_51 (by decide) ?_
            refine go_iload (pc := 52) dX12_without_52 rfl ?_
            refine go_ishl (pc := 54) dX12_without_54 ?_
            refine go_goto 59 (pc := 55) dX12_without_55 (by decide) ?_
            refine go_ior (pc := 59) dX12_without_59 ?_
            first | rw [zor2 hb (by omega)] | rw [zorN, Nat.or_zero]
            refine go_istore_n (i := 3) (pc := 60) dX12_without_60 rfl (by decide) ?_
            refine go_iincN (pc := 61) dX12_without_61 rfl (by decide) ?_
            refine go_goto 30 (pc := 64) dX12_without_64 (by decide) ?_
            rw [← es]
            exact ih (tw.1 - (i + 1)) (by omega) (i + 1) rfl (by omega)
    refine go_iconst (nI 0) (pc := 25) dX12_without_25 (by decide) ?_
    refine go_istore_n (i := 3) (pc := 26) dX12_without_26 rfl (by decide) ?_
    refine go_iconst (nI 0) (pc := 27) dX12_without_27 (by decide) ?_
    refine go_istore (pc := 28) dX12_without_28 (by decide) ?_
    exact lo1 0 (by omega)
  refine go_aload_n (i := 0) (pc := 0) dX12_without_0 rfl rfl ?_
  refine go_iconst (nI 0) (pc := 1) dX12_without_1 (by decide) ?_
  refine go_puti fp_X12_97 (pc := 2) dX12_without_2 (by rfl) rfl rfl ?_
  have hF : Fr9 [0, 27, 28] [13, 14, 16, 8] σ (uS σ 33 0 (nI 0)) := Fr9.rf.uS (by simp)
  have hSt := (hC.fr hF (by decide) (by decide)).2.2.2.2.1
  refine go_iload_n (i := 1) (pc := 5) dX12_without_5 rfl rfl ?_
  refine go_i2l (pc := 6) dX12_without_6 ?_
  refine go_lconst (lN 0) (pc := 7) dX12_without_7 (by decide) ?_
  refine go_ldc2 (99) kc_X12_301 (pc := 8) dX12_without_8 ?_
  refine go_callS ml_X12_107 mt_X12_in (pc := 11) dX12_without_11 (c_in (lo := 0) (hi := 99) (by decide) (by decide)) (by decide) (by decide) rfl rfl (Nat.le_of_ble_eq_true rfl) (fun r σ' hp => ?_)
  obtain ⟨rfl, hσ⟩ := hp
  rw [hσ]
  clear hσ σ'
  dsimp only [zRet]
  refine go_if_ne 19 (pc := 14) dX12_without_14 (by decide) (fun h14 => ?_) (fun h14 => ?_)
  · first | rw [zb_0d] at h14 | rw [zn_eq0 (by omega)] at h14 | rw [zi_eq0] at h14
    rw [if_pos (by omega), if_pos (by omega)]
    have hv99 : v.toInt ≤ 99 := by omega
    have ev1 := nI_of' (x := v) (by omega)
    generalize hqv1 : v.toInt.toNat = v1 at ev1 ⊢
    subst ev1
    refine go_aload_n (i := 0) (pc := 19) dX12_without_19 rfl rfl ?_
    refine go_iload_n (i := 1) (pc := 20) dX12_without_20 rfl rfl ?_
    refine go_callV ml_X12_365 mt_X12_poorer (pc := 21) dX12_without_21 (c_X12_poorer hSt (by omega)) (by rfl) rfl (by rfl) (by decide) (by decide) rfl rfl (Nat.le_of_ble_eq_true rfl) (fun r σ' hp => ?_)
    obtain ⟨rfl, hσ⟩ := hp
    rw [hσ]
    clear hσ σ'
    dsimp only [zRet]
    refine go_istore_n (i := 2) (pc := 24) dX12_without_24 rfl (by decide) ?_
    exact main v1 (by omega) _ hF
  · first | rw [zb_0d] at h14 | rw [zn_eq0 (by omega)] at h14 | rw [zi_eq0] at h14
    refine go_iconst (-1) (pc := 17) dX12_without_17 (by decide) ?_
    refine go_ireturn (pc := 18) dX12_without_18 rfl ?_
    rw [if_neg (by omega), if_neg (by omega)]
    exact ⟨rfl, hC.fr hF (by decide) (by decide), hF.1⟩

def tB (e : Option (Nat × Nat)) : Int32 := match e with | none => -2 | some q => nI q.1
def tL (e : Option (Nat × Nat)) : Int32 := match e with | none => nI 1000000 | some q => nI q.2
def tLn (e : Option (Nat × Nat)) : Nat := match e with | none => 1000000 | some q => q.2
theorem tL_n (e : Option (Nat × Nat)) : tL e = nI (tLn e) := by cases e <;> rfl
theorem thr_s {V : zV} {ρ : Nat → Nat} {n m : Nat} (h : ¬ (ρ 24).testBit m = true) (hB : (wks V (va_up ρ m 9) n).2.2.1 < 1000000) : thr V ρ n (m + 1) = if (wks V (va_up ρ m 9) n).2.2.1 < tLn (thr V ρ n m) then some (m, (wks V (va_up ρ m 9) n).2.2.1) else thr V ρ n m := by
  cases h2 : thr V ρ n m with
  | none => rw [thr_0 h h2, tLn, if_pos hB]
  | some q => rw [thr_1 h h2]; rfl

theorem c_X12_thorns {E : zE} {σ : zT} {tx : Nat × (Nat → Nat)} {bd : Nat × (Nat → Nat) × (Nat → Nat)} {sk : Nat × (Nat → Nat)} {tw : Nat × (Nat → Nat) × (Nat → Nat)} {xs : List Nat} {ld : Nat × (Nat → Nat)} {pa sh : Nat × (Nat → Nat → Nat)} {ru : Nat × (Nat → Nat) × (Nat → Nat)} {to : Nat × (Nat → Int64)} {n : Int32} (hC : RefIs σ tx bd sk tw xs ld pa sh ru to) (hro : Roomy ld.2) : CalM E 11 yX12_thorns cX12_thorns 6 (some .int) [.ref (zA E 33 0), .int n] σ (fun r σ' => r = some (.int (if 1 ≤ n.toInt ∧ n.toInt ≤ 20 then (match thr (vOf bd sk xs ld.1) ld.2 n.toInt.toNat ld.1 with | none => -2 | some q => nI q.1) else -1)) ∧ RefIs σ' tx bd sk tw xs ld pa sh ru (if 1 ≤ n.toInt ∧ n.toInt ≤ 20 then (match thr (vOf bd sk xs ld.1) ld.2 n.toInt.toNat ld.1 with | none => to | some q => (2, ln2 (lN q.2) (lN (wks (vOf bd sk xs ld.1) ld.2 n.toInt.toNat).2.2.1))) else to) ∧ FrG [33] σ σ') := by
  refine cal_of_go (own := RX12) rfl (by decide +kernel) (Nat.le_of_ble_eq_true rfl) ?_
  have hN := hC.2.2.2.2.2.1
  have hn : 1 ≤ ld.1 ∧ ld.1 ≤ 12 := ⟨hN.2.1.1, hN.2.1.2.1⟩
  have hV := hC.env.vok hN.2.1
  have hok := hN.2.1
  have hg : ld.2 24 < 2 ^ 12 := Nat.lt_of_lt_of_le hok.2.2.2.1 (Nat.pow_le_pow_right (by decide) hn.2)
  have main : ∀ n1 : Nat, n1 ≤ 20 → ∀ τ, Fr9 [0, 27, 28] [13, 14, 16, 8] σ τ → GoM E 11 RX12 cX12_thorns 6 (some .int) (fun r σ' => r = some (.int (match thr (vOf bd sk xs ld.1) ld.2 n1 ld.1 with | none => -2 | some q => nI q.1)) ∧ RefIs σ' tx bd sk tw xs ld pa sh ru (match thr (vOf bd sk xs ld.1) ld.2 n1 ld.1 with | none => to | some q => (2, ln2 (lN q.2) (lN (wks (vOf bd sk xs ld.1) ld.2 n1).2.2.1))) ∧ FrG [33] σ σ') τ 19 [(0, .ref (zA E 33 0)), (1, .int (nI n1))] [] := by
    intro n1 hn1
    have hwk : ∀ j, j < ld.1 → (wks (vOf bd sk xs ld.1) (va_up ld.2 j 9) n1).2.2.1 ≤ 1440 := fun j hj => by
      have := (wks_ok hV (hok.lo (m := j) (v := 9) (by omega) (by omega)) n1 (by rw [va_at', if_neg (by omega)]; omega) (by rw [va_at', if_neg (by omega)]; omega)).2.2.2.1
      omega
    have hw0 : (wks (vOf bd sk xs ld.1) ld.2 n1).2.2.1 ≤ 1440 := by
      have := (wks_ok hV hok n1 (by omega) (by omega)).2.2.2.1
      omega
    have loop : ∀ (i : Nat) (τ : zT), i ≤ ld.1 → (Fr9 [0, 27, 28] [13, 14, 16, 8] σ τ) → GoM E 11 RX12 cX12_thorns 6 (some .int) (fun r σ' => r = some (.int (match thr (vOf bd sk xs ld.1) ld.2 n1 ld.1 with | none => -2 | some q => nI q.1)) ∧ RefIs σ' tx bd sk tw xs ld pa sh ru (match thr (vOf bd sk xs ld.1) ld.2 n1 ld.1 with | none => to | some q => (2, ln2 (lN q.2) (lN (wks (vOf bd sk xs ld.1) ld.2 n1).2.2.1))) ∧ FrG [33] σ σ') τ 29 [(0, .ref (zA E 33 0)), (1, .int (nI n1)), (2, .int (tB (thr (vOf bd sk xs ld.1) ld.2 n1 i))), (3, .int (nI (tLn (thr (vOf bd sk xs ld.1) ld.2 n1 i)))), (4, .int (nI i))] [] := by
      intro i
      induction hz : ld.1 - i using Nat.strongRecOn generalizing i with
      | ind z ih =>
        intro τ hi hF
        have hCt := hC.fr hF (by decide) (by decide)
        have hNt := hCt.2.2.2.2.2.1
        have hbt := thr_b (m := i) (fun j hj => hwk j (by omega))
        have htn : tLn (thr (vOf bd sk xs ld.1) ld.2 n1 i) ≤ 1000000 := by
          cases he : (thr (vOf bd sk xs ld.1) ld.2 n1 i) with
          | none => exact Nat.le_refl _
          | some q => have := (hbt q he).2; show q.2 ≤ _; omega
        refine go_iload (pc := 29) dX12_thorns_29 rfl ?_
        refine go_aload_n (i := 0) (pc := 31) dX12_thorns_31 rfl rfl ?_
        refine go_geti fl_X12_13 (pc := 32) dX12_thorns_32 (by rfl) ?_
        rw [hNt.1]
        refine go_icmp_ge 97 (pc := 35) dX12_thorns_35 (by decide) (fun h35 => ?_) (fun h35 => ?_)
        · first | rw [nI_leI (by omega) (by omega)] at h35 | rw [zi_leN (by omega)] at h35 | rw [zi_Nle (by omega)] at h35 | rw [zi_le] at h35
          have e : i = ld.1 := by omega
          subst e
          refine go_iload_n (i := 2) (pc := 97) dX12_thorns_97 rfl rfl ?_
          refine go_if_ge 104 (pc := 98) dX12_thorns_98 (by decide) (fun h98 => ?_) (fun h98 => ?_)
          · obtain ⟨q, hq⟩ : ∃ q, thr (vOf bd sk xs ld.1) ld.2 n1 ld.1 = some q := by
              cases he : thr (vOf bd sk xs ld.1) ld.2 n1 ld.1 with
              | none => rw [he] at h98; exact absurd h98 (by decide)
              | some q => exact ⟨q, rfl⟩
            have hqb := hbt q hq
            rw [hq]
            dsimp only [tB, tLn]
            refine go_aload_n (i := 0) (pc := 104) dX12_thorns_104 rfl rfl ?_
            refine go_callV ml_X12_356 mt_X12_copies (pc := 105) dX12_thorns_105 (c_X12_copies (hN.2.2.fr hF (by decide))) (by rfl) rfl (by rfl) (by decide) (by decide) rfl rfl (Nat.le_of_ble_eq_true rfl) (fun r σ' hp => ?_)
            obtain ⟨rfl, hw8, hFc⟩ := hp
            dsimp only [zRet]
            have hF := hF.tr (hFc.mono (by simp) (by simp))
            have hEc := (hC.fr hF (by decide) (by decide)).env
            refine go_aload_n (i := 0) (pc := 108) dX12_thorns_108 rfl rfl ?_
            refine go_iload_n (i := 1) (pc := 109) dX12_thorns_109 rfl rfl ?_
            refine go_callV ml_X12_383 mt_X12_loadsIn (pc := 110) dX12_thorns_110 (c_X12_loadsIn (V := (vOf bd sk xs ld.1)) (ρ := ld.2) hEc hw8 hok (by omega) (by omega)) (by rfl) rfl (by rfl) (by decide) (by decide) rfl rfl (Nat.le_of_ble_eq_true rfl) (fun r σ' hp => ?_)
            obtain ⟨rfl, hFd⟩ := hp
            dsimp only [zRet]
            have hF := hF.tr (hFd.mono (by simp) (by simp))
            refine go_istore (pc := 113) dX12_thorns_113 (by decide) ?_
            refine go_aload_n (i := 0) (pc := 115) dX12_thorns_115 rfl rfl ?_
            refine go_iconst (nI 0) (pc := 116) dX12_thorns_116 (by decide) ?_
            refine go_puti fp_X12_104 (pc := 117) dX12_thorns_117 (by rfl) rfl rfl ?_
            have hFt : Fr9 [0, 1, 27, 28] [1, 13, 14, 16, 8] σ (uS σ' 33 1 (nI 0)) := (hF.mono (by simp) (by simp)).uS (by simp)
            have hz1 : (uS σ' 33 1 (nI 0)).1 33 1 = nI 0 := uS_s _ _ _ _
            refine go_aload_n (i := 0) (pc := 120) dX12_thorns_120 rfl rfl ?_
            refine go_iload_n (i := 3) (pc := 121) dX12_thorns_121 rfl rfl ?_
            refine go_i2l (pc := 122) dX12_thorns_122 ?_
            rw [nI_l (by omega)]
            refine go_callV ml_X12_333 mt_X12_enters (pc := 123) dX12_thorns_123 (c_tell1 hz1) (by rfl) rfl (by rfl) (by decide) (by decide) rfl rfl (Nat.le_of_ble_eq_true rfl) (fun r σ' hp => ?_)
            obtain ⟨rfl, hT1, hF1⟩ := hp
            dsimp only [zRet]
            have hFu := hFt.tr (hF1.mono (by simp) (by simp))
            refine go_aload_n (i := 0) (pc := 126) dX12_thorns_126 rfl rfl ?_
            refine go_iload (pc := 127) dX12_thorns_127 rfl ?_
            refine go_i2l (pc := 129) dX12_thorns_129 ?_
            rw [nI_l (by omega)]
            refine go_callV ml_X12_333 mt_X12_enters (pc := 130) dX12_thorns_130 (c_tell2 hT1) (by rfl) rfl (by rfl) (by decide) (by decide) rfl rfl (Nat.le_of_ble_eq_true rfl) (fun r σ' hp => ?_)
            obtain ⟨rfl, hT2, hF2⟩ := hp
            dsimp only [zRet]
            have hFv := hFu.tr (hF2.mono (by simp) (by simp))
            refine go_iload_n (i := 2) (pc := 133) dX12_thorns_133 rfl rfl ?_
            refine go_ireturn (pc := 134) dX12_thorns_134 rfl ?_
            exact ⟨rfl, hC.tell hFv (by decide) (by decide) hT2, hFv.1⟩
          · have hq : thr (vOf bd sk xs ld.1) ld.2 n1 ld.1 = none := by
              cases he : thr (vOf bd sk xs ld.1) ld.2 n1 ld.1 with
              | none => rfl
              | some q =>
                have := (hbt q he).1
                rw [he] at h98
                exact absurd (nI_pos' (show q.1 < 2 ^ 31 by omega)) h98
            rw [hq]
            refine go_bipush (-2) (pc := 101) dX12_thorns_101 (by decide) ?_
            refine go_ireturn (pc := 103) dX12_thorns_103 rfl ?_
            exact ⟨rfl, hC.fr hF (by decide) (by decide), hF.1⟩
        · first | rw [nI_leI (by omega) (by omega)] at h35 | rw [zi_leN (by omega)] at h35 | rw [zi_Nle (by omega)] at h35 | rw [zi_le] at h35
          refine go_aload_n (i := 0) (pc := 38) dX12_thorns_38 rfl rfl ?_
          refine go_aload_n (i := 0) (pc := 39) dX12_thorns_39 rfl rfl ?_
          refine go_getr2 fl_X12_36 (pc := 40) dX12_thorns_40 (by rfl) (by rfl) (by rfl) ?_
          refine go_iload (pc := 43) dX12_thorns_43 rfl ?_
          refine go_callV ml_X12_247 mt_X12_isGate (pc := 45) dX12_thorns_45 (c_X12_isGate (j := 7) rfl hNt.2.2 hg (by omega)) (by rfl) rfl (by rfl) (by decide) (by decide) rfl rfl (Nat.le_of_ble_eq_true rfl) (fun r σ' hp => ?_)
          obtain ⟨rfl, hσ⟩ := hp
          rw [hσ]
          clear hσ
          dsimp only [zRet]
          refine go_if_ne 91 (pc := 48) dX12_thorns_48 (by decide) (fun h48 => ?_) (fun h48 => ?_)
          · rw [zb_0] at h48
            have hgt : (ld.2 24).testBit i = true := by simpa using h48
            have es := thr_g (V := vOf bd sk xs ld.1) (n := n1) hgt
            refine go_iincN (pc := 91) dX12_thorns_91 rfl (by decide) ?_
            refine go_goto 29 (pc := 94) dX12_thorns_94 (by decide) ?_
            first
              | (rw [hmn]
                 first
                   | (rw [← es]
                      refine go_drop [0, 1, 2, 3, 4] rfl ?_
                      exact ih (ld.1 - (i + 1)) (by omega) (i + 1) rfl _ (by omega) hF)
                   | (refine go_drop [0, 1, 2, 3, 4] rfl ?_
                      have h := ih (ld.1 - (i + 1)) (by omega) (i + 1) rfl _ (by omega) hF
                      rw [es] at h
                      exact h))
              | (rw [← es]
                 exact ih (ld.1 - (i + 1)) (by omega) (i + 1) rfl _ (by omega) hF)
          · rw [zb_0] at h48
            have hgt : ¬ (ld.2 24).testBit i = true := by rw [h48]; decide
            have es0 := thr_s hgt (Nat.lt_of_le_of_lt (hwk i (by omega)) (by decide))
            refine go_aload_n (i := 0) (pc := 51) dX12_thorns_51 rfl rfl ?_
            refine go_callV ml_X12_356 mt_X12_copies (pc := 52) dX12_thorns_52 (c_X12_copies (hN.2.2.fr hF (by decide))) (by rfl) rfl (by rfl) (by decide) (by decide) rfl rfl (Nat.le_of_ble_eq_true rfl) (fun r σ' hp => ?_)
            obtain ⟨rfl, hw8, hFc⟩ := hp
            dsimp only [zRet]
            have hF := hF.tr (hFc.mono (by simp) (by simp))
            have hEc := (hC.fr hF (by decide) (by decide)).env
            refine go_aload_n (i := 0) (pc := 55) dX12_thorns_55 rfl rfl ?_
            refine go_getr2 fl_X12_39 (pc := 56) dX12_thorns_56 (by rfl) (by rfl) (by rfl) ?_
            refine go_iload (pc := 59) dX12_thorns_59 rfl ?_
            refine go_bipush (nI 9) (pc := 61) dX12_thorns_61 (by decide) ?_
            refine go_iastore _ (pc := 63) dX12_thorns_63 (by first | rfl | (apply zM_ar <;> assumption)) (by first | rfl | (apply zM_jn <;> assumption)) rfl (by first | assumption | omega) ?_
            have hw9 := hw8.up (i := i) (v := 9)
            have hF3 : Fr9 [0, 27, 28] [13, 14, 16, 8] σ (uA σ' 33 8 (upd (σ'.2.1 33 8) i (nI 9))) := hF.uA (by simp)
            have hE3 := (hC.fr hF3 (by decide) (by decide)).env
            generalize uA σ' 33 8 (upd (σ'.2.1 33 8) i (nI 9)) = τ3 at hw9 hF3 hE3 ⊢
            refine go_aload_n (i := 0) (pc := 64) dX12_thorns_64 rfl rfl ?_
            refine go_iload_n (i := 1) (pc := 65) dX12_thorns_65 rfl rfl ?_
            refine go_callV ml_X12_383 mt_X12_loadsIn (pc := 66) dX12_thorns_66 (c_X12_loadsIn (V := (vOf bd sk xs ld.1)) (ρ := va_up ld.2 i 9) hE3 hw9 (hok.lo (by omega) (by omega)) (by rw [va_at', if_neg (by omega)]; omega) (by rw [va_at', if_neg (by omega)]; omega)) (by rfl) rfl (by rfl) (by decide) (by decide) rfl rfl (Nat.le_of_ble_eq_true rfl) (fun r σ' hp => ?_)
            obtain ⟨rfl, hFd⟩ := hp
            dsimp only [zRet]
            have hF := hF3.tr (hFd.mono (by simp) (by simp))
            have hwm := hwk i (by omega)
            refine go_istore (pc := 69) dX12_thorns_69 (by decide) ?_
            refine go_iload (pc := 71) dX12_thorns_71 rfl ?_
            refine go_iload_n (i := 3) (pc := 73) dX12_thorns_73 rfl rfl ?_
            refine go_icmp_ge 82 (pc := 74) dX12_thorns_74 (by decide) (fun h74 => ?_) (fun h74 => ?_)
            · first | rw [nI_leI (by omega) (by omega)] at h74 | rw [zi_leN (by omega)] at h74 | rw [zi_Nle (by omega)] at h74 | rw [zi_le] at h74
              have es := es0.trans (if_neg (by omega))
              have hmn : min (tLn (thr (vOf bd sk xs ld.1) ld.2 n1 i)) (wks (vOf bd sk xs ld.1) (va_up ld.2 i 9) n1).2.2.1 = tLn (thr (vOf bd sk xs ld.1) ld.2 n1 i) := by omega
              refine go_iload_n (i := 2) (pc := 82) dX12_thorns_82 rfl rfl ?_
              refine go_istore_n (i := 2) (pc := 83) dX12_thorns_83 rfl (by decide) ?_
              refine go_iload_n (i := 3) (pc := 84) dX12_thorns_84 rfl rfl ?_
              refine go_iload (pc := 85) dX12_thorns_85 rfl ?_
              refine go_callS ml_X12_127 mt_J9_min_7cf53 (pc := 87) dX12_thorns_87 (c_J9_minN (by omega) (by omega)) (by decide) (by decide) rfl rfl (Nat.le_of_ble_eq_true rfl) (fun r σ' hp => ?_)
              obtain ⟨rfl, hσ⟩ := hp
              rw [hσ]
              clear hσ
              dsimp only [zRet]
              refine go_istore_n (i := 3) (pc := 90) dX12_thorns_90 rfl (by decide) ?_
              refine go_iincN (pc := 91) dX12_thorns_91 rfl (by decide) ?_
              refine go_goto 29 (pc := 94) dX12_thorns_94 (by decide) ?_
              first
                | (rw [hmn]
                   first
                     | (rw [← es]
                        refine go_drop [0, 1, 2, 3, 4] rfl ?_
                        exact ih (ld.1 - (i + 1)) (by omega) (i + 1) rfl _ (by omega) hF)
                     | (refine go_drop [0, 1, 2, 3, 4] rfl ?_
                        have h := ih (ld.1 - (i + 1)) (by omega) (i + 1) rfl _ (by omega) hF
                        rw [es] at h
                        exact h))
                | (rw [← es]
                   exact ih (ld.1 - (i + 1)) (by omega) (i + 1) rfl _ (by omega) hF)
            · first | rw [nI_leI (by omega) (by omega)] at h74 | rw [zi_leN (by omega)] at h74 | rw [zi_Nle (by omega)] at h74 | rw [zi_le] at h74
              have es := es0.trans (if_pos (by omega))
              have hmn : min (tLn (thr (vOf bd sk xs ld.1) ld.2 n1 i)) (wks (vOf bd sk xs ld.1) (va_up ld.2 i 9) n1).2.2.1 = (wks (vOf bd sk xs ld.1) (va_up ld.2 i 9) n1).2.2.1 := by omega
              refine go_iload (pc := 77) dX12_thorns_77 rfl ?_
              refine go_goto 83 (pc := 79) dX12_thorns_79 (by decide) ?_
              refine go_istore_n (i := 2) (pc := 83) dX12_thorns_83 rfl (by decide) ?_
              refine go_iload_n (i := 3) (pc := 84) dX12_thorns_84 rfl rfl ?_
              refine go_iload (pc := 85) dX12_thorns_85 rfl ?_
              refine go_callS ml_X12_127 mt_J9_min_7cf53 (pc := 87) dX12_thorns_87 (c_J9_minN (by omega) (by omega)) (by decide) (by decide) rfl rfl (Nat.le_of_ble_eq_true rfl) (fun r σ' hp => ?_)
              obtain ⟨rfl, hσ⟩ := hp
              rw [hσ]
              clear hσ
              dsimp only [zRet]
              refine go_istore_n (i := 3) (pc := 90) dX12_thorns_90 rfl (by decide) ?_
              refine go_iincN (pc := 91) dX12_thorns_91 rfl (by decide) ?_
              refine go_goto 29 (pc := 94) dX12_thorns_94 (by decide) ?_
              first
                | (rw [hmn]
                   first
                     | (rw [← es]
                        refine go_drop [0, 1, 2, 3, 4] rfl ?_
                        exact ih (ld.1 - (i + 1)) (by omega) (i + 1) rfl _ (by omega) hF)
                     | (refine go_drop [0, 1, 2, 3, 4] rfl ?_
                        have h := ih (ld.1 - (i + 1)) (by omega) (i + 1) rfl _ (by omega) hF
                        rw [es] at h
                        exact h))
                | (rw [← es]
                   exact ih (ld.1 - (i + 1)) (by omega) (i + 1) rfl _ (by omega) hF)
    intro τ hF
    refine go_bipush (-2) (pc := 19) dX12_thorns_19 (by decide) ?_
    refine go_istore_n (i := 2) (pc := 21) dX12_thorns_21 rfl (by decide) ?_
    refine go_ldcw (nI 1000000) kc_X12_380 (pc := 22) dX12_thorns_22 ?_
    refine go_istore_n (i := 3) (pc := 25) dX12_thorns_25 rfl (by decide) ?_
    refine go_iconst (nI 0) (pc := 26) dX12_thorns_26 (by decide) ?_
    refine go_istore (pc := 27) dX12_thorns_27 (by decide) ?_
    exact loop 0 τ (by omega) hF
  refine go_aload_n (i := 0) (pc := 0) dX12_thorns_0 rfl rfl ?_
  refine go_iconst (nI 0) (pc := 1) dX12_thorns_1 (by decide) ?_
  refine go_puti fp_X12_97 (pc := 2) dX12_thorns_2 (by rfl) rfl rfl ?_
  have hF : Fr9 [0, 27, 28] [13, 14, 16, 8] σ (uS σ 33 0 (nI 0)) := Fr9.rf.uS (by simp)
  refine go_iload_n (i := 1) (pc := 5) dX12_thorns_5 rfl rfl ?_
  refine go_i2l (pc := 6) dX12_thorns_6 ?_
  refine go_lconst (lN 1) (pc := 7) dX12_thorns_7 (by decide) ?_
  refine go_ldc2 (20) kc_X12_381 (pc := 8) dX12_thorns_8 ?_
  refine go_callS ml_X12_107 mt_X12_in (pc := 11) dX12_thorns_11 (c_in (lo := 1) (hi := 20) (by decide) (by decide)) (by decide) (by decide) rfl rfl (Nat.le_of_ble_eq_true rfl) (fun r σ' hp => ?_)
  obtain ⟨rfl, hσ⟩ := hp
  rw [hσ]
  clear hσ σ'
  dsimp only [zRet]
  refine go_if_ne 19 (pc := 14) dX12_thorns_14 (by decide) (fun h14 => ?_) (fun h14 => ?_)
  · first | rw [zb_0d] at h14 | rw [zn_eq0 (by omega)] at h14 | rw [zi_eq0] at h14
    rw [if_pos (by omega), if_pos (by omega)]
    have hn20 : n.toInt ≤ 20 := by omega
    have en1 := nI_of' (x := n) (by omega)
    generalize hqn1 : n.toInt.toNat = n1 at en1 ⊢
    subst en1
    exact main n1 (by omega) _ hF
  · first | rw [zb_0d] at h14 | rw [zn_eq0 (by omega)] at h14 | rw [zi_eq0] at h14
    refine go_iconst (-1) (pc := 17) dX12_thorns_17 (by decide) ?_
    refine go_ireturn (pc := 18) dX12_thorns_18 rfl ?_
    rw [if_neg (by omega), if_neg (by omega)]
    exact ⟨rfl, hC.fr hF (by decide) (by decide), hF.1⟩

