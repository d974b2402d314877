theorem c_X12_guardHas {E : zE} {σ : zT} {x y v : Nat} (hx : x < 100) (hy : y < 100) (hv : v < 100) : CalM E 0 yX12_guardHas cX12_guardHas 3 (some .int) [.int (nI x), .int (nI y), .int (nI v)] σ (fun r σ' => r = some (.int (nI (gH x y v))) ∧ σ' = σ) := by
  refine cal_of_go (own := RX12) rfl (by decide +kernel) (Nat.le_of_ble_eq_true rfl) ?_
  refine go_iload_n (i := 1) (pc := 0) dX12_guardHas_0 rfl rfl ?_
  refine go_iload_n (i := 0) (pc := 1) dX12_guardHas_1 rfl rfl ?_
  refine go_icmp_lt 9 (pc := 2) dX12_guardHas_2 (by decide) (fun h2 => ?_) (fun h2 => ?_)
  · first | rw [nI_ltI (by omega) (by omega)] at h2 | rw [zi_ltN (by omega)] at h2 | rw [zi_Nlt (by omega)] at h2 | rw [zi_lt] at h2
    refine go_iload_n (i := 2) (pc := 9) dX12_guardHas_9 rfl rfl ?_
    refine go_ireturn (pc := 10) dX12_guardHas_10 rfl ?_
    unfold gH
    first
      | (rw [if_pos (by omega)]; exact ⟨rfl, rfl⟩)
      | (rw [if_neg (by omega)]; exact ⟨rfl, rfl⟩)
  · first | rw [nI_ltI (by omega) (by omega)] at h2 | rw [zi_ltN (by omega)] at h2 | rw [zi_Nlt (by omega)] at h2 | rw [zi_lt] at h2
    refine go_iload_n (i := 1) (pc := 5) dX12_guardHas_5 rfl rfl ?_
    refine go_goto 10 (pc := 6) dX12_guardHas_6 (by decide) ?_
    refine go_ireturn (pc := 10) dX12_guardHas_10 rfl ?_
    unfold gH
    first
      | (rw [if_pos (by omega)]; exact ⟨rfl, rfl⟩)
      | (rw [if_neg (by omega)]; exact ⟨rfl, rfl⟩)

theorem c_X12_otherHas {E : zE} {σ : zT} {x y v : Nat} (hx : x < 100) (hy : y < 100) (hv : v < 100) : CalM E 0 yX12_otherHas cX12_otherHas 3 (some .int) [.int (nI x), .int (nI y), .int (nI v)] σ (fun r σ' => r = some (.int (cH x y v)) ∧ σ' = σ) := by
  refine cal_of_go (own := RX12) rfl (by decide +kernel) (Nat.le_of_ble_eq_true rfl) ?_
  refine go_iload_n (i := 1) (pc := 0) dX12_otherHas_0 rfl rfl ?_
  refine go_iload_n (i := 0) (pc := 1) dX12_otherHas_1 rfl rfl ?_
  refine go_icmp_lt 11 (pc := 2) dX12_otherHas_2 (by decide) (fun h2 => ?_) (fun h2 => ?_)
  · first | rw [nI_ltI (by omega) (by omega)] at h2 | rw [zi_ltN (by omega)] at h2 | rw [zi_Nlt (by omega)] at h2 | rw [zi_lt] at h2
    refine go_iconst (nI 0) (pc := 11) dX12_otherHas_11 (by decide) ?_
    refine go_ireturn (pc := 12) dX12_otherHas_12 rfl ?_
    unfold cH
    first
      | (rw [if_pos (by omega)]; exact ⟨rfl, rfl⟩)
      | (rw [if_neg (by omega)]; exact ⟨rfl, rfl⟩)
  · first | rw [nI_ltI (by omega) (by omega)] at h2 | rw [zi_ltN (by omega)] at h2 | rw [zi_Nlt (by omega)] at h2 | rw [zi_lt] at h2
    refine go_iload_n (i := 2) (pc := 5) dX12_otherHas_5 rfl rfl ?_
    refine go_iload_n (i := 1) (pc := 6) dX12_otherHas_6 rfl rfl ?_
    refine go_isub (pc := 7) dX12_otherHas_7 ?_
    refine go_goto 12 (pc := 8) dX12_otherHas_8 (by decide) ?_
    refine go_ireturn (pc := 12) dX12_otherHas_12 rfl ?_
    unfold cH
    first
      | (rw [if_pos (by omega)]; exact ⟨rfl, rfl⟩)
      | (rw [if_neg (by omega)]; exact ⟨rfl, rfl⟩)

theorem c_X12_isRest {E : zE} {σ : zT} {x y v w : Nat} (hx : x < 10) (hy : y < 10) (hv : v < 100) (hw : w < 10) : CalM E 1 yX12_isRest cX12_isRest 6 (some .boolean) [.int (nI x), .int (nI y), .int (nI v), .int (nI w)] σ (fun r σ' => r = some (.int (zb (rst x y v w))) ∧ σ' = σ) := by
  refine cal_of_go (own := RX12) rfl (by decide +kernel) (Nat.le_of_ble_eq_true rfl) ?_
  have loop : ∀ i : Nat, i ≤ 10 → GoM E 1 RX12 cX12_isRest 6 (some .boolean) (fun r σ' => r = some (.int (zb (rst x y v w))) ∧ σ' = σ) σ 6 [(0, .int (nI x)), (1, .int (nI y)), (2, .int (nI v)), (3, .int (nI w)), (4, .int (zb (rstL x y v w i))), (5, .int (nI i))] [] := by
    intro i
    induction hj : 10 - i using Nat.strongRecOn generalizing i with
    | ind z ih =>
      intro hi
      have hg1 : gH i y w < 100 := by unfold gH; split <;> omega
      have hg2 : gH x y w < 100 := by unfold gH; split <;> omega
      refine go_iload (pc := 6) dX12_isRest_6 rfl ?_
      refine go_bipush (nI 9) (pc := 8) dX12_isRest_8 (by decide) ?_
      refine go_icmp_gt 63 (pc := 10) dX12_isRest_10 (by decide) (fun h10 => ?_) (fun h10 => ?_)
      · first | rw [nI_ltI (by omega) (by omega)] at h10 | rw [zi_ltN (by omega)] at h10 | rw [zi_Nlt (by omega)] at h10 | rw [zi_lt] at h10
        have ei : i = 10 := by omega
        subst ei
        refine go_iload (pc := 63) dX12_isRest_63 rfl ?_
        refine go_zreturn (pc := 65) dX12_isRest_65 rfl (by first | rfl | (apply zb_nar)) ?_
        exact ⟨rfl, rfl⟩
      · first | rw [nI_ltI (by omega) (by omega)] at h10 | rw [zi_ltN (by omega)] at h10 | rw [zi_Nlt (by omega)] at h10 | rw [zi_lt] at h10
        refine go_iload (pc := 13) dX12_isRest_13 rfl ?_
        refine go_if_eq 54 (pc := 15) dX12_isRest_15 (by decide) (fun h15 => ?_) (fun h15 => ?_)
        · rw [zb_0] at h15
          have es : rstL x y v w (i + 1) = false := by rw [rstL, h15]; rfl
          refine go_iconst (nI 0) (pc := 54) dX12_isRest_54 (by decide) ?_
          refine go_istore (pc := 55) dX12_isRest_55 (by decide) ?_
          refine go_iincN (pc := 57) dX12_isRest_57 rfl (by decide) ?_
          refine go_goto 6 (pc := 60) dX12_isRest_60 (by decide) ?_
          refine go_at rfl (show _ = [(0, .int (nI x)), (1, .int (nI y)), (2, .int (nI v)), (3, .int (nI w)), (4, .int (zb (rstL x y v w (i + 1)))), (5, .int (nI (i + 1)))] by rw [es]; rfl) rfl ?_
          exact ih (10 - (i + 1)) (by omega) (i + 1) rfl (by omega)
        · rw [zb_0] at h15
          have h15 : rstL x y v w i = true := by simpa using h15
          refine go_iload (pc := 18) dX12_isRest_18 rfl ?_
          refine go_iload_n (i := 1) (pc := 20) dX12_isRest_20 rfl rfl ?_
          refine go_iload_n (i := 3) (pc := 21) dX12_isRest_21 rfl rfl ?_
          refine go_callS ml_X12_420 mt_X12_guardHas (pc := 22) dX12_isRest_22 (c_X12_guardHas (by omega) (by omega) (by omega)) (by decide) (by decide) rfl rfl (Nat.le_of_ble_eq_true rfl) (fun r σ' hp => ?_)
          obtain ⟨rfl, hσ⟩ := hp
          rw [hσ]
          clear hσ σ'
          dsimp only [zRet]
          refine go_iload_n (i := 0) (pc := 25) dX12_isRest_25 rfl rfl ?_
          refine go_iload_n (i := 1) (pc := 26) dX12_isRest_26 rfl rfl ?_
          refine go_iload_n (i := 3) (pc := 27) dX12_isRest_27 rfl rfl ?_
          refine go_callS ml_X12_420 mt_X12_guardHas (pc := 28) dX12_isRest_28 (c_X12_guardHas (by omega) (by omega) (by omega)) (by decide) (by decide) rfl rfl (Nat.le_of_ble_eq_true rfl) (fun r σ' hp => ?_)
          obtain ⟨rfl, hσ⟩ := hp
          rw [hσ]
          clear hσ σ'
          dsimp only [zRet]
          refine go_icmp_gt 54 (pc := 31) dX12_isRest_31 (by decide) (fun h31 => ?_) (fun h31 => ?_)
          · first | rw [nI_ltI (by omega) (by omega)] at h31 | rw [zi_ltN (by omega)] at h31 | rw [zi_Nlt (by omega)] at h31 | rw [zi_lt] at h31
            have es : rstL x y v w (i + 1) = false := by rw [rstL, h15, decide_eq_false (by omega : ¬ gH i y w ≤ gH x y w)]; rfl
            refine go_iconst (nI 0) (pc := 54) dX12_isRest_54 (by decide) ?_
            refine go_istore (pc := 55) dX12_isRest_55 (by decide) ?_
            refine go_iincN (pc := 57) dX12_isRest_57 rfl (by decide) ?_
            refine go_goto 6 (pc := 60) dX12_isRest_60 (by decide) ?_
            refine go_at rfl (show _ = [(0, .int (nI x)), (1, .int (nI y)), (2, .int (nI v)), (3, .int (nI w)), (4, .int (zb (rstL x y v w (i + 1)))), (5, .int (nI (i + 1)))] by rw [es]; rfl) rfl ?_
            exact ih (10 - (i + 1)) (by omega) (i + 1) rfl (by omega)
          · first | rw [nI_ltI (by omega) (by omega)] at h31 | rw [zi_ltN (by omega)] at h31 | rw [zi_Nlt (by omega)] at h31 | rw [zi_lt] at h31
            refine go_iload_n (i := 0) (pc := 34) dX12_isRest_34 rfl rfl ?_
            refine go_iload (pc := 35) dX12_isRest_35 rfl ?_
            refine go_iload_n (i := 2) (pc := 37) dX12_isRest_37 rfl rfl ?_
            refine go_callS ml_X12_423 mt_X12_otherHas (pc := 38) dX12_isRest_38 (c_X12_otherHas (by omega) (by omega) (by omega)) (by decide) (by decide) rfl rfl (Nat.le_of_ble_eq_true rfl) (fun r σ' hp => ?_)
            obtain ⟨rfl, hσ⟩ := hp
            rw [hσ]
            clear hσ σ'
            dsimp only [zRet]
            refine go_iload_n (i := 0) (pc := 41) dX12_isRest_41 rfl rfl ?_
            refine go_iload_n (i := 1) (pc := 42) dX12_isRest_42 rfl rfl ?_
            refine go_iload_n (i := 2) (pc := 43) dX12_isRest_43 rfl rfl ?_
            refine go_callS ml_X12_423 mt_X12_otherHas (pc := 44) dX12_isRest_44 (c_X12_otherHas (by omega) (by omega) (by omega)) (by decide) (by decide) rfl rfl (Nat.le_of_ble_eq_true rfl) (fun r σ' hp => ?_)
            obtain ⟨rfl, hσ⟩ := hp
            rw [hσ]
            clear hσ σ'
            dsimp only [zRet]
            refine go_icmp_gt 54 (pc := 47) dX12_isRest_47 (by decide) (fun h47 => ?_) (fun h47 => ?_)
            · have es : rstL x y v w (i + 1) = false := by rw [rstL, h15, decide_eq_true (by omega : gH i y w ≤ gH x y w), decide_eq_false (Int32.not_le.mpr h47)]; rfl
              refine go_iconst (nI 0) (pc := 54) dX12_isRest_54 (by decide) ?_
              refine go_istore (pc := 55) dX12_isRest_55 (by decide) ?_
              refine go_iincN (pc := 57) dX12_isRest_57 rfl (by decide) ?_
              refine go_goto 6 (pc := 60) dX12_isRest_60 (by decide) ?_
              refine go_at rfl (show _ = [(0, .int (nI x)), (1, .int (nI y)), (2, .int (nI v)), (3, .int (nI w)), (4, .int (zb (rstL x y v w (i + 1)))), (5, .int (nI (i + 1)))] by rw [es]; rfl) rfl ?_
              exact ih (10 - (i + 1)) (by omega) (i + 1) rfl (by omega)
            · have es : rstL x y v w (i + 1) = true := by rw [rstL, h15, decide_eq_true (by omega : gH i y w ≤ gH x y w), decide_eq_true (Int32.not_lt.mp h47)]; rfl
              refine go_iconst (nI 1) (pc := 50) dX12_isRest_50 (by decide) ?_
              refine go_goto 55 (pc := 51) dX12_isRest_51 (by decide) ?_
              refine go_istore (pc := 55) dX12_isRest_55 (by decide) ?_
              refine go_iincN (pc := 57) dX12_isRest_57 rfl (by decide) ?_
              refine go_goto 6 (pc := 60) dX12_isRest_60 (by decide) ?_
              refine go_at rfl (show _ = [(0, .int (nI x)), (1, .int (nI y)), (2, .int (nI v)), (3, .int (nI w)), (4, .int (zb (rstL x y v w (i + 1)))), (5, .int (nI (i + 1)))] by rw [es]; rfl) rfl ?_
              exact ih (10 - (i + 1)) (by omega) (i + 1) rfl (by omega)
  refine go_iconst (nI 1) (pc := 0) dX12_isRest_0 (by decide) ?_
  refine go_istore (pc := 1) dX12_isRest_1 (by decide) ?_
  refine go_iconst (nI 0) (pc := 3) dX12_isRest_3 (by decide) ?_
  refine go_istore (pc := 4) dX12_isRest_4 (by decide) ?_
  exact loop 0 (by omega)

theorem rsT_0 {v r t : Nat} (h : rsM v r t = 0) : rsT v r t = (0, fun _ => 0) := by
  induction t with
  | zero => rfl
  | succ t ih =>
    rw [rsM] at h
    split at h
    · omega
    · rename_i hn
      rw [rsT, if_neg (fun q => hn q.1), ih h]

theorem c_X12_rests {E : zE} {σ : zT} {tx : Nat × (Nat → Nat)} {bd : Nat × (Nat → Nat) × (Nat → Nat)} {sk : Nat × (Nat → Nat)} {tw : Nat × (Nat → Nat) × (Nat → Nat)} {xs : List Nat} {ld : Nat × (Nat → Nat)} {pa sh : Nat × (Nat → Nat → Nat)} {ru : Nat × (Nat → Nat) × (Nat → Nat)} {to : Nat × (Nat → Int64)} {v w : Int32} (hC : RefIs σ tx bd sk tw xs ld pa sh ru to) : CalM E 2 yX12_rests cX12_rests 6 (some .int) [.ref (zA E 33 0), .int v, .int w] σ (fun r σ' => r = some (.int (if (in0 v 20 ∧ in0 w 9) then nI (rsM v.toInt.toNat w.toInt.toNat 100) else -1)) ∧ RefIs σ' tx bd sk tw xs ld pa sh ru (if (in0 v 20 ∧ in0 w 9) then rsT v.toInt.toNat w.toInt.toNat 100 else to) ∧ FrG [33] σ σ') := by
  refine cal_of_go (own := RX12) rfl (by decide +kernel) (Nat.le_of_ble_eq_true rfl) ?_
  have main : ∀ v1 w1 : Nat, v1 ≤ 20 → w1 ≤ 9 → ∀ τ, τ.1 33 1 = nI 0 → Fr9 [0, 1, 27, 28] [1, 13, 14, 16, 8] σ τ → GoM E 2 RX12 cX12_rests 6 (some .int) (fun r σ' => r = some (.int (nI (rsM v1 w1 100))) ∧ RefIs σ' tx bd sk tw xs ld pa sh ru (rsT v1 w1 100) ∧ FrG [33] σ σ') τ 38 [(0, .ref (zA E 33 0)), (1, .int (nI v1)), (2, .int (nI w1)), (3, .int (nI 0))] [] := by
    intro v1 w1 hv1 hw1
    have outer : ∀ (x : Nat) (τ : zT), x ≤ 10 → TellIs τ (rsT v1 w1 (10 * x)).1 (rsT v1 w1 (10 * x)).2 → Fr9 [0, 1, 27, 28] [1, 13, 14, 16, 8] σ τ → GoM E 2 RX12 cX12_rests 6 (some .int) (fun r σ' => r = some (.int (nI (rsM v1 w1 100))) ∧ RefIs σ' tx bd sk tw xs ld pa sh ru (rsT v1 w1 100) ∧ FrG [33] σ σ') τ 41 [(0, .ref (zA E 33 0)), (1, .int (nI v1)), (2, .int (nI w1)), (3, .int (nI (rsM v1 w1 (10 * x)))), (4, .int (nI x))] [] := by
      intro x
      induction hj : 10 - x using Nat.strongRecOn generalizing x with
      | ind z ih =>
        intro τ hx hT hF
        have inner : x < 10 → ∀ (y : Nat) (τ : zT), y ≤ 10 → TellIs τ (rsT v1 w1 (10 * x + y)).1 (rsT v1 w1 (10 * x + y)).2 → Fr9 [0, 1, 27, 28] [1, 13, 14, 16, 8] σ τ → GoM E 2 RX12 cX12_rests 6 (some .int) (fun r σ' => r = some (.int (nI (rsM v1 w1 100))) ∧ RefIs σ' tx bd sk tw xs ld pa sh ru (rsT v1 w1 100) ∧ FrG [33] σ σ') τ 51 [(0, .ref (zA E 33 0)), (1, .int (nI v1)), (2, .int (nI w1)), (3, .int (nI (rsM v1 w1 (10 * x + y)))), (4, .int (nI x)), (5, .int (nI y))] [] := by
          intro hx10 y
          induction hj2 : 10 - y using Nat.strongRecOn generalizing y with
          | ind z2 ih2 =>
            intro τ hy hT hF
            have hml := rsM_le v1 w1 (10 * x + y)
            refine go_iload (pc := 51) dX12_rests_51 rfl ?_
            refine go_bipush (nI 9) (pc := 53) dX12_rests_53 (by decide) ?_
            refine go_icmp_gt 97 (pc := 55) dX12_rests_55 (by decide) (fun h55 => ?_) (fun h55 => ?_)
            · first | rw [nI_ltI (by omega) (by omega)] at h55 | rw [zi_ltN (by omega)] at h55 | rw [zi_Nlt (by omega)] at h55 | rw [zi_lt] at h55
              have ey : y = 10 := by omega
              subst ey
              refine go_iincN (pc := 97) dX12_rests_97 rfl (by decide) ?_
              refine go_goto 41 (pc := 100) dX12_rests_100 (by decide) ?_
              refine go_drop [0, 1, 2, 3, 4] rfl ?_
              exact ih (10 - (x + 1)) (by omega) (x + 1) rfl _ (by omega) hT hF
            · first | rw [nI_ltI (by omega) (by omega)] at h55 | rw [zi_ltN (by omega)] at h55 | rw [zi_Nlt (by omega)] at h55 | rw [zi_lt] at h55
              refine go_iload (pc := 58) dX12_rests_58 rfl ?_
              refine go_iload (pc := 60) dX12_rests_60 rfl ?_
              refine go_iload_n (i := 1) (pc := 62) dX12_rests_62 rfl rfl ?_
              refine go_iload_n (i := 2) (pc := 63) dX12_rests_63 rfl rfl ?_
              refine go_callS ml_X12_426 mt_X12_isRest (pc := 64) dX12_rests_64 (c_X12_isRest (by omega) (by omega) (by omega) (by omega)) (by decide) (by decide) rfl rfl (Nat.le_of_ble_eq_true rfl) (fun r σ' hp => ?_)
              obtain ⟨rfl, hσ⟩ := hp
              rw [hσ]
              clear hσ
              dsimp only [zRet]
              refine go_if_eq 91 (pc := 67) dX12_rests_67 (by decide) (fun h67 => ?_) (fun h67 => ?_)
              · rw [zb_0] at h67
                have eq1 : (10 * x + y) / 10 = x := by omega
                have eq2 : (10 * x + y) % 10 = y := by omega
                have eM : rsM v1 w1 (10 * x + (y + 1)) = rsM v1 w1 (10 * x + y) := by rw [← Nat.add_assoc, rsM, if_neg (by rw [eq1, eq2, h67]; decide)]
                have eT : rsT v1 w1 (10 * x + (y + 1)) = rsT v1 w1 (10 * x + y) := by rw [← Nat.add_assoc, rsT, if_neg (by rw [eq1, eq2, h67]; simp)]
                have hT2 := hT
                rw [← eT] at hT2
                have hF2 := hF
                refine go_iincN (pc := 91) dX12_rests_91 rfl (by decide) ?_
                refine go_goto 51 (pc := 94) dX12_rests_94 (by decide) ?_
                rw [← eM]
                exact ih2 (10 - (y + 1)) (by omega) (y + 1) rfl _ (by omega) hT2 hF2
              · rw [zb_0] at h67
                have hr : rst x y v1 w1 = true := by simpa using h67
                have eq1 : (10 * x + y) / 10 = x := by omega
                have eq2 : (10 * x + y) % 10 = y := by omega
                have eM : rsM v1 w1 (10 * x + (y + 1)) = rsM v1 w1 (10 * x + y) + 1 := by rw [← Nat.add_assoc, rsM, if_pos (by rw [eq1, eq2]; exact hr)]
                refine go_iload_n (i := 3) (pc := 70) dX12_rests_70 rfl rfl ?_
                refine go_if_ne 88 (pc := 71) dX12_rests_71 (by decide) (fun h71 => ?_) (fun h71 => ?_)
                · first | rw [zb_0d] at h71 | rw [zn_eq0 (by omega)] at h71 | rw [zi_eq0] at h71
                  have eT : rsT v1 w1 (10 * x + (y + 1)) = rsT v1 w1 (10 * x + y) := by rw [← Nat.add_assoc, rsT, if_neg (fun q => by omega)]
                  have hT2 := hT
                  rw [← eT] at hT2
                  have hF2 := hF
                  refine go_iincN (pc := 88) dX12_rests_88 rfl (by decide) ?_
                  refine go_iincN (pc := 91) dX12_rests_91 rfl (by decide) ?_
                  refine go_goto 51 (pc := 94) dX12_rests_94 (by decide) ?_
                  rw [← eM]
                  exact ih2 (10 - (y + 1)) (by omega) (y + 1) rfl _ (by omega) hT2 hF2
                · first | rw [zb_0d] at h71 | rw [zn_eq0 (by omega)] at h71 | rw [zi_eq0] at h71
                  have h71 : rsM v1 w1 (10 * x + y) = 0 := by omega
                  have eT : rsT v1 w1 (10 * x + (y + 1)) = (2, ln2 (lN x) (lN y)) := by rw [← Nat.add_assoc, rsT, if_pos (by rw [eq1, eq2]; exact ⟨hr, h71⟩), eq1, eq2]
                  have hz1 : τ.1 33 1 = nI 0 := by have := hT.2.1; rw [rsT_0 h71] at this; exact this
                  refine go_aload_n (i := 0) (pc := 74) dX12_rests_74 rfl rfl ?_
                  refine go_iload (pc := 75) dX12_rests_75 rfl ?_
                  refine go_i2l (pc := 77) dX12_rests_77 ?_
                  rw [nI_l (by omega)]
                  refine go_callV ml_X12_333 mt_X12_enters (pc := 78) dX12_rests_78 (c_tell1 hz1) (by rfl) rfl (by rfl) (by decide) (by decide) rfl rfl (Nat.le_of_ble_eq_true rfl) (fun r σ' hp => ?_)
                  obtain ⟨rfl, hT1, hF1⟩ := hp
                  dsimp only [zRet]
                  have hFu := hF.tr (hF1.mono (by simp) (by simp))
                  refine go_aload_n (i := 0) (pc := 81) dX12_rests_81 rfl rfl ?_
                  refine go_iload (pc := 82) dX12_rests_82 rfl ?_
                  refine go_i2l (pc := 84) dX12_rests_84 ?_
                  rw [nI_l (by omega)]
                  refine go_callV ml_X12_333 mt_X12_enters (pc := 85) dX12_rests_85 (c_tell2 hT1) (by rfl) rfl (by rfl) (by decide) (by decide) rfl rfl (Nat.le_of_ble_eq_true rfl) (fun r σ' hp => ?_)
                  obtain ⟨rfl, hT2, hFb⟩ := hp
                  dsimp only [zRet]
                  have hF2 := hFu.tr (hFb.mono (by simp) (by simp))
                  have hT2 : TellIs σ' (2, ln2 (lN x) (lN y)).1 (2, ln2 (lN x) (lN y)).2 := hT2
                  rw [← eT] at hT2
                  refine go_iincN (pc := 88) dX12_rests_88 rfl (by decide) ?_
                  refine go_iincN (pc := 91) dX12_rests_91 rfl (by decide) ?_
                  refine go_goto 51 (pc := 94) dX12_rests_94 (by decide) ?_
                  rw [← eM]
                  exact ih2 (10 - (y + 1)) (by omega) (y + 1) rfl _ (by omega) hT2 hF2
            
        refine go_iload (pc := 41) dX12_rests_41 rfl ?_
        refine go_bipush (nI 9) (pc := 43) dX12_rests_43 (by decide) ?_
        refine go_icmp_gt 103 (pc := 45) dX12_rests_45 (by decide) (fun h45 => ?_) (fun h45 => ?_)
        · first | rw [nI_ltI (by omega) (by omega)] at h45 | rw [zi_ltN (by omega)] at h45 | rw [zi_Nlt (by omega)] at h45 | rw [zi_lt] at h45
          have ex : x = 10 := by omega
          subst ex
          refine go_iload_n (i := 3) (pc := 103) dX12_rests_103 rfl rfl ?_
          refine go_ireturn (pc := 104) dX12_rests_104 rfl ?_
          exact ⟨rfl, hC.tell (to' := rsT v1 w1 100) hF (by decide) (by decide) hT, hF.1⟩
        · first | rw [nI_ltI (by omega) (by omega)] at h45 | rw [zi_ltN (by omega)] at h45 | rw [zi_Nlt (by omega)] at h45 | rw [zi_lt] at h45
          refine go_iconst (nI 0) (pc := 48) dX12_rests_48 (by decide) ?_
          refine go_istore (pc := 49) dX12_rests_49 (by decide) ?_
          exact inner (by omega) 0 _ (by omega) hT hF
    intro τ hz1 hF
    refine go_iconst (nI 0) (pc := 38) dX12_rests_38 (by decide) ?_
    refine go_istore (pc := 39) dX12_rests_39 (by decide) ?_
    exact outer 0 τ (by omega) ⟨Nat.zero_le _, hz1, fun q hq => absurd hq (Nat.not_lt_zero _)⟩ hF
  refine go_aload_n (i := 0) (pc := 0) dX12_rests_0 rfl rfl ?_
  refine go_iconst (nI 0) (pc := 1) dX12_rests_1 (by decide) ?_
  refine go_puti fp_X12_97 (pc := 2) dX12_rests_2 (by rfl) rfl rfl ?_
  have hF : Fr9 [0, 27, 28] [13, 14, 16, 8] σ (uS σ 33 0 (nI 0)) := Fr9.rf.uS (by simp)
  refine go_iload_n (i := 1) (pc := 5) dX12_rests_5 rfl rfl ?_
  refine go_i2l (pc := 6) dX12_rests_6 ?_
  refine go_lconst (lN 0) (pc := 7) dX12_rests_7 (by decide) ?_
  refine go_ldc2 (20) kc_X12_381 (pc := 8) dX12_rests_8 ?_
  refine go_callS ml_X12_107 mt_X12_in (pc := 11) dX12_rests_11 (c_in (lo := 0) (hi := 20) (by decide) (by decide)) (by decide) (by decide) rfl rfl (Nat.le_of_ble_eq_true rfl) (fun r σ' hp => ?_)
  obtain ⟨rfl, hσ⟩ := hp
  rw [hσ]
  clear hσ σ'
  dsimp only [zRet]
  refine go_if_eq 29 (pc := 14) dX12_rests_14 (by decide) (fun h14 => ?_) (fun h14 => ?_)
  · first | rw [zb_0d] at h14 | rw [zn_eq0 (by omega)] at h14 | rw [zi_eq0] at h14
    refine go_iconst (-1) (pc := 29) dX12_rests_29 (by decide) ?_
    refine go_ireturn (pc := 30) dX12_rests_30 rfl ?_
    rw [if_neg (by omega), if_neg (by omega)]
    exact ⟨rfl, hC.fr hF (by decide) (by decide), hF.1⟩
  · first | rw [zb_0d] at h14 | rw [zn_eq0 (by omega)] at h14 | rw [zi_eq0] at h14
    refine go_iload_n (i := 2) (pc := 17) dX12_rests_17 rfl rfl ?_
    refine go_i2l (pc := 18) dX12_rests_18 ?_
    refine go_lconst (lN 0) (pc := 19) dX12_rests_19 (by decide) ?_
    refine go_ldc2 (9) kc_X12_303 (pc := 20) dX12_rests_20 ?_
    refine go_callS ml_X12_107 mt_X12_in (pc := 23) dX12_rests_23 (c_in (lo := 0) (hi := 9) (by decide) (by decide)) (by decide) (by decide) rfl rfl (Nat.le_of_ble_eq_true rfl) (fun r σ' hp => ?_)
    obtain ⟨rfl, hσ⟩ := hp
    rw [hσ]
    clear hσ σ'
    dsimp only [zRet]
    refine go_if_ne 31 (pc := 26) dX12_rests_26 (by decide) (fun h26 => ?_) (fun h26 => ?_)
    · first | rw [zb_0d] at h26 | rw [zn_eq0 (by omega)] at h26 | rw [zi_eq0] at h26
      refine go_iconst (nI 0) (pc := 31) dX12_rests_31 (by decide) ?_
      refine go_istore_n (i := 3) (pc := 32) dX12_rests_32 rfl (by decide) ?_
      refine go_aload_n (i := 0) (pc := 33) dX12_rests_33 rfl rfl ?_
      refine go_iconst (nI 0) (pc := 34) dX12_rests_34 (by decide) ?_
      refine go_puti fp_X12_104 (pc := 35) dX12_rests_35 (by rfl) rfl rfl ?_
      have hFt : Fr9 [0, 1, 27, 28] [1, 13, 14, 16, 8] σ (uS (uS σ 33 0 (nI 0)) 33 1 (nI 0)) := (hF.mono (by simp) (by simp)).uS (by simp)
      have hz1 : (uS (uS σ 33 0 (nI 0)) 33 1 (nI 0)).1 33 1 = nI 0 := uS_s _ _ _ _
      rw [if_pos (by omega : (in0 v 20 ∧ in0 w 9)), if_pos (by omega : (in0 v 20 ∧ in0 w 9))]
      have hh : v.toInt ≤ 20 ∧ w.toInt ≤ 9 := by omega
      have ev1 := nI_of' (x := v) (by omega)
      generalize hqv1 : v.toInt.toNat = v1 at ev1 ⊢
      subst ev1
      have ew1 := nI_of' (x := w) (by omega)
      generalize hqw1 : w.toInt.toNat = w1 at ew1 ⊢
      subst ew1
      exact main v1 w1 (by omega) (by omega) _ hz1 hFt
    · first | rw [zb_0d] at h26 | rw [zn_eq0 (by omega)] at h26 | rw [zi_eq0] at h26
      refine go_iconst (-1) (pc := 29) dX12_rests_29 (by decide) ?_
      refine go_ireturn (pc := 30) dX12_rests_30 rfl ?_
      rw [if_neg (by omega), if_neg (by omega)]
      exact ⟨rfl, hC.fr hF (by decide) (by decide), hF.1⟩

theorem c_X12_draws {E : zE} {σ : zT} {n : Nat} {d : Int32} (hd : σ.1 33 43 = d) (h1 : 1 ≤ n) (hn : n ≤ 12) : CalM E 0 yX12_draws cX12_draws 2 (some .int) [.ref (zA E 33 0), .int (nI n)] σ (fun r σ' => r = some (.int (nI (rn (drN d) % n))) ∧ σ' = uS σ 33 43 (drN d)) := by
  refine cal_of_go (own := RX12) rfl (by decide +kernel) (Nat.le_of_ble_eq_true rfl) ?_
  have hr := rn_lt (drN d)
  refine go_aload_n (i := 0) (pc := 0) dX12_draws_0 rfl rfl ?_
  refine go_aload_n (i := 0) (pc := 1) dX12_draws_1 rfl rfl ?_
  refine go_geti fl_X12_430 (pc := 2) dX12_draws_2 (by rfl) ?_
  rw [hd]
  refine go_ldcw (1103515245) kc_X12_433 (pc := 5) dX12_draws_5 ?_
  refine go_imul (pc := 8) dX12_draws_8 ?_
  refine go_sipush (nI 12345) (pc := 9) dX12_draws_9 (by decide) ?_
  refine go_iadd (pc := 12) dX12_draws_12 ?_
  rw [show d * 1103515245 + nI 12345 = drN d from rfl]
  refine go_puti fp_X12_430 (pc := 13) dX12_draws_13 (by rfl) rfl rfl ?_
  refine go_aload_n (i := 0) (pc := 16) dX12_draws_16 rfl rfl ?_
  refine go_geti fl_X12_430 (pc := 17) dX12_draws_17 (by rfl) ?_
  rw [uS_s]
  refine go_bipush (nI 16) (pc := 20) dX12_draws_20 (by decide) ?_
  refine go_iushr (pc := 22) dX12_draws_22 ?_
  rw [ushr16]
  refine go_iload_n (i := 1) (pc := 23) dX12_draws_23 rfl rfl ?_
  refine go_irem (pc := 24) dX12_draws_24 (by rw [zn_eq0 (by omega)]; omega) ?_
  rw [pk_rem (by omega) (by omega) (by omega)]
  refine go_ireturn (pc := 25) dX12_draws_25 rfl ?_
  exact ⟨rfl, rfl⟩

def yMen (a x : Nat) : Nat := if a = 2 then min 9 (x + 1) else if a = 3 then x - 1 else x
def yHed (a : Nat) (g : Bool) (x : Nat) : Nat := if a = 4 ∧ g = false then min 9 (x + 2) else x
theorem yr_row {V : zV} {d : Int32} {ρ : Nat → Nat} {a m : Nat} (ha : ¬ a ≤ 1) (ha4 : a ≤ 4) (hm : rn (drN d) % vN V = m) (hm12 : m < 12) : ∀ q, va_up (va_up ρ (12 + m) (yMen a (ρ (12 + m)))) m (yHed a ((ρ 24).testBit m) (ρ m)) q = (yr1 V d ρ a).2.1 q := by
  intro q
  unfold yr1
  rw [if_neg ha, hm]
  dsimp only
  have e : a = 2 ∨ a = 3 ∨ a = 4 := by omega
  rcases e with rfl | rfl | rfl
  · rw [if_pos rfl]
    show va_up (va_up ρ (12 + m) (min 9 (ρ (12 + m) + 1))) m (ρ m) q = _
    rw [va_at']
    by_cases h : q = m
    · rw [if_pos h, va_at', if_neg (by omega), h]
    · rw [if_neg h]
  · rw [if_neg (by decide), if_pos rfl]
    show va_up (va_up ρ (12 + m) (ρ (12 + m) - 1)) m (ρ m) q = _
    rw [va_at']
    by_cases h : q = m
    · rw [if_pos h, va_at', if_neg (by omega), h]
    · rw [if_neg h]
  · rw [if_neg (by decide), if_neg (by decide)]
    show va_up (va_up ρ (12 + m) (ρ (12 + m))) m (yHed 4 ((ρ 24).testBit m) (ρ m)) q = _
    rw [va_up_me]
    unfold yHed
    by_cases hg : (ρ 24).testBit m = true
    · rw [if_pos hg, if_neg (fun h => by rw [hg] at h; exact absurd h.2 (by decide)), va_up_me]
    · rw [if_neg hg, if_pos ⟨rfl, by simpa using hg⟩]
theorem yMen_2 {a x : Nat} (h : a = 2) (hx : x ≤ 9) : clp (nI (x + 1)) 9 = yMen a x := by rw [clp_upk hx (by decide)]; unfold yMen; rw [if_pos h]
theorem yMen_3 {a x : Nat} (h : a = 3) (hx : x ≤ 9) : clp (nI x + (-1)) 9 = yMen a x := by rw [clp_dn hx]; unfold yMen; rw [if_neg (by omega), if_pos h]
theorem yMen_4 {a x : Nat} (h : ¬ a = 2) (h3 : ¬ a = 3) (hx : x ≤ 9) : clp (nI (x + 0)) 9 = yMen a x := by rw [clp_upk hx (by decide)]; unfold yMen; rw [if_neg h, if_neg h3]; omega
theorem yHed_y {a x : Nat} {g : Bool} (h : a = 4) (hg : g = false) : min 9 (x + 2) = yHed a g x := by unfold yHed; rw [if_pos ⟨h, hg⟩]
theorem yHed_n {a x : Nat} {g : Bool} (h : ¬ a = 4) : x = yHed a g x := by unfold yHed; rw [if_neg (fun q => h q.1)]
theorem yHed_g {a x : Nat} {g : Bool} (hg : ¬ g = false) : x = yHed a g x := by unfold yHed; rw [if_neg (fun q => hg q.2)]

theorem yr_d1 {V : zV} {d : Int32} {ρ : Nat → Nat} {a : Nat} (h : ¬ a ≤ 1) : (yr1 V d ρ a).1 = drN d := by unfold yr1; rw [if_neg h]
theorem yr_d0 {V : zV} {d : Int32} {ρ : Nat → Nat} {a : Nat} (h : a ≤ 1) : (yr1 V d ρ a).1 = d := by unfold yr1; rw [if_pos h]
theorem yr_r0 {V : zV} {d : Int32} {ρ : Nat → Nat} {a : Nat} (h : a ≤ 1) : (yr1 V d ρ a).2.1 = (wk1 V ρ).2.2 := by unfold yr1; rw [if_pos h]
theorem yr_step {E : zE} {P : Option Value → zT → Prop} {V : zV} {ρ : Nat → Nat} {d s : Int32} {n1 i : Nat} {τ : zT} (hE : EnvR τ V) (hR : RwIs τ 8 ρ) (a1 : RowOK (vN V) ρ) (hd : τ.1 33 43 = d) (h27 : ρ 27 + 1 < 2 ^ 28) (h28 : ρ 28 + 72 < 2 ^ 28)
    (k : ∀ τ', RwIs τ' 8 (yr1 V (drN d) ρ (rn (drN d) % 5)).2.1 → τ'.1 33 43 = (yr1 V (drN d) ρ (rn (drN d) % 5)).1 → Fr9 [27, 28, 43] [13, 14, 16, 8] τ τ' → GoM E 9 RX12 cX12_years 7 (some .int) P τ' 30 [(0, .ref (zA E 33 0)), (1, .int s), (2, .int (nI n1)), (3, .int (nI (i + 1)))] []) : GoM E 9 RX12 cX12_years 7 (some .int) P τ 35 [(0, .ref (zA E 33 0)), (1, .int s), (2, .int (nI n1)), (3, .int (nI i))] [] := by
  have hn : 1 ≤ vN V ∧ vN V ≤ 12 := ⟨a1.1, a1.2.1⟩
  have ha5 : rn (drN d) % 5 < 5 := Nat.mod_lt _ (by decide)
  have hgl : ρ 24 < 2 ^ 12 := Nat.lt_of_lt_of_le a1.2.2.2.1 (Nat.pow_le_pow_right (by decide) hn.2)
  refine go_aload_n (i := 0) (pc := 35) dX12_years_35 rfl rfl ?_
  refine go_iconst (nI 5) (pc := 36) dX12_years_36 (by decide) ?_
  refine go_callV ml_X12_434 mt_X12_draws (pc := 37) dX12_years_37 (c_X12_draws (n := 5) hd (by decide) (by decide)) (by rfl) rfl (by rfl) (by decide) (by decide) rfl rfl (Nat.le_of_ble_eq_true rfl) (fun r σ' hp => ?_)
  obtain ⟨rfl, hσ⟩ := hp
  rw [hσ]
  clear hσ σ'
  dsimp only [zRet]
  have hF2 : Fr9 [27, 28, 43] [13, 14, 16, 8] τ (uS τ 33 43 (drN d)) := Fr9.rf.uS (by simp)
  have hd2 : (uS τ 33 43 (drN d)).1 33 43 = drN d := uS_s _ _ _ _
  have hR2 : RwIs (uS τ 33 43 (drN d)) 8 ρ := hR.uS
  generalize uS τ 33 43 (drN d) = τ2 at hF2 hd2 hR2 ⊢
  have hE2 := hE.fr hF2 (by decide) (by decide)
  clear hR hd
  generalize haq : rn (drN d) % 5 = a at ha5 k ⊢
  refine go_istore (pc := 40) dX12_years_40 (by decide) ?_
  refine go_iload (pc := 42) dX12_years_42 rfl ?_
  refine go_iconst (nI 2) (pc := 44) dX12_years_44 (by decide) ?_
  refine go_icmp_ge 60 (pc := 45) dX12_years_45 (by decide) (fun h45 => ?_) (fun h45 => ?_)
  · first | rw [nI_leI (by omega) (by omega)] at h45 | rw [zi_leN (by omega)] at h45 | rw [zi_Nle (by omega)] at h45 | rw [zi_le] at h45
    refine go_aload_n (i := 0) (pc := 60) dX12_years_60 rfl rfl ?_
    refine go_aload_n (i := 0) (pc := 61) dX12_years_61 rfl rfl ?_
    refine go_geti fl_X12_13 (pc := 62) dX12_years_62 (by rfl) ?_
    rw [hE2.2.2.2]
    refine go_callV ml_X12_434 mt_X12_draws (pc := 65) dX12_years_65 (c_X12_draws (n := vN V) hd2 a1.1 a1.2.1) (by rfl) rfl (by rfl) (by decide) (by decide) rfl rfl (Nat.le_of_ble_eq_true rfl) (fun r σ' hp => ?_)
    obtain ⟨rfl, hσ⟩ := hp
    rw [hσ]
    clear hσ σ'
    dsimp only [zRet]
    have hF3 : Fr9 [27, 28, 43] [13, 14, 16, 8] τ (uS τ2 33 43 (drN (drN d))) := hF2.uS (by simp)
    have hd3 : (uS τ2 33 43 (drN (drN d))).1 33 43 = drN (drN d) := uS_s _ _ _ _
    have hR3 : RwIs (uS τ2 33 43 (drN (drN d))) 8 ρ := hR2.uS
    generalize uS τ2 33 43 (drN (drN d)) = τ3 at hF3 hd3 hR3 ⊢
    clear hR2 hd2 hF2 hE2
    have hmm : rn (drN (drN d)) % vN V < vN V := Nat.mod_lt _ a1.1
    generalize hmq : rn (drN (drN d)) % vN V = m at hmm ⊢
    have hx9 := a1.2.2.1 (12 + m) (by omega)
    have hh9 := a1.2.2.1 m (by omega)
    refine go_istore (pc := 68) dX12_years_68 (by decide) ?_
    refine go_iload (pc := 70) dX12_years_70 rfl ?_
    refine go_iconst (nI 2) (pc := 72) dX12_years_72 (by decide) ?_
    refine go_icmp_ne 80 (pc := 73) dX12_years_73 (by decide) (fun h73 => ?_) (fun h73 => ?_)
    · first | rw [nI_eq (by omega) (by omega)] at h73 | rw [zi_eqN (by omega)] at h73 | rw [zi_Neq (by omega)] at h73 | rw [zi_eq] at h73
      refine go_iload (pc := 80) dX12_years_80 rfl ?_
      refine go_iconst (nI 3) (pc := 82) dX12_years_82 (by decide) ?_
      refine go_icmp_ne 90 (pc := 83) dX12_years_83 (by decide) (fun h83 => ?_) (fun h83 => ?_)
      · first | rw [nI_eq (by omega) (by omega)] at h83 | rw [zi_eqN (by omega)] at h83 | rw [zi_Neq (by omega)] at h83 | rw [zi_eq] at h83
        have hMn := yMen_4 (x := ρ (12 + m)) h73 h83 hx9
        refine go_iconst (nI 0) (pc := 90) dX12_years_90 (by decide) ?_
        refine go_istore (pc := 91) dX12_years_91 (by decide) ?_
        refine go_aload_n (i := 0) (pc := 93) dX12_years_93 rfl rfl ?_
        refine go_getr2 fl_X12_39 (pc := 94) dX12_years_94 (by rfl) (by rfl) (by rfl) ?_
        refine go_bipush (nI 12) (pc := 97) dX12_years_97 (by decide) ?_
        refine go_iload (pc := 99) dX12_years_99 rfl ?_
        first | with_reducible refine go_iaddN (pc := 101) dX12_years_101 ?_ | refine go_iadd (pc := 101) dX12_years_101 ?_
        refine go_iconst (nI 0) (pc := 102) dX12_years_102 (by decide) ?_
        refine go_bipush (nI 9) (pc := 103) dX12_years_103 (by decide) ?_
        refine go_aload_n (i := 0) (pc := 105) dX12_years_105 rfl rfl ?_
        refine go_getr2 fl_X12_39 (pc := 106) dX12_years_106 (by rfl) (by rfl) (by rfl) ?_
        refine go_bipush (nI 12) (pc := 109) dX12_years_109 (by decide) ?_
        refine go_iload (pc := 111) dX12_years_111 rfl ?_
        first | with_reducible refine go_iaddN (pc := 113) dX12_years_113 ?_ | refine go_iadd (pc := 113) dX12_years_113 ?_
        refine go_iaload (12 + m) (pc := 114) dX12_years_114 rfl rfl rfl (by omega) ?_
        rw [hR3 (12 + m) (by omega)]
        refine go_iload (pc := 115) dX12_years_115 rfl ?_
        first | with_reducible refine go_iaddN (pc := 117) dX12_years_117 ?_ | refine go_iadd (pc := 117) dX12_years_117 ?_
        refine go_callS ml_X12_127 mt_J9_min_7cf53 (pc := 118) dX12_years_118 (c_J9_min_7cf53) (by decide) (by decide) rfl rfl (Nat.le_of_ble_eq_true rfl) (fun r σ' hp => ?_)
        obtain ⟨rfl, hσ⟩ := hp
        rw [hσ]
        clear hσ
        dsimp only [zRet]
        refine go_callS ml_X12_244 mt_J9_max_7cf53 (pc := 121) dX12_years_121 (c_J9_max_7cf53) (by decide) (by decide) rfl rfl (Nat.le_of_ble_eq_true rfl) (fun r σ' hp => ?_)
        obtain ⟨rfl, hσ⟩ := hp
        rw [hσ]
        clear hσ
        dsimp only [zRet]
        rw [clp_m9]
        refine go_top (congrArg (fun z => Value.int (nI z)) hMn) ?_
        refine go_iastore (12 + m) (pc := 124) dX12_years_124 rfl rfl rfl (by omega) ?_
        have hR4 := hR3.up (i := 12 + m) (v := yMen a (ρ (12 + m)))
        have hF4 : Fr9 [27, 28, 43] [13, 14, 16, 8] τ (uA τ3 33 8 (upd (τ3.2.1 33 8) (12 + m) (nI (yMen a (ρ (12 + m)))))) := hF3.uA (by simp)
        have hd4 : (uA τ3 33 8 (upd (τ3.2.1 33 8) (12 + m) (nI (yMen a (ρ (12 + m)))))).1 33 43 = drN (drN d) := hd3
        generalize uA τ3 33 8 (upd (τ3.2.1 33 8) (12 + m) (nI (yMen a (ρ (12 + m))))) = τ4 at hR4 hF4 hd4 ⊢
        clear hR3 hF3 hd3
        have e4m : va_up ρ (12 + m) (yMen a (ρ (12 + m))) m = ρ m := by rw [va_at', if_neg (by omega)]
        have e424 : va_up ρ (12 + m) (yMen a (ρ (12 + m))) 24 = ρ 24 := by rw [va_at', if_neg (by omega)]
        refine go_aload_n (i := 0) (pc := 125) dX12_years_125 rfl rfl ?_
        refine go_getr2 fl_X12_39 (pc := 126) dX12_years_126 (by rfl) (by rfl) (by rfl) ?_
        refine go_iload (pc := 129) dX12_years_129 rfl ?_
        refine go_iload (pc := 131) dX12_years_131 rfl ?_
        refine go_iconst (nI 4) (pc := 133) dX12_years_133 (by decide) ?_
        refine go_icmp_ne 167 (pc := 134) dX12_years_134 (by decide) (fun h134 => ?_) (fun h134 => ?_)
        · first | rw [nI_eq (by omega) (by omega)] at h134 | rw [zi_eqN (by omega)] at h134 | rw [zi_Neq (by omega)] at h134 | rw [zi_eq] at h134
          have hHd := yHed_n (x := ρ m) (g := (ρ 24).testBit m) h134
          refine go_aload_n (i := 0) (pc := 167) dX12_years_167 rfl rfl ?_
          refine go_getr2 fl_X12_39 (pc := 168) dX12_years_168 (by rfl) (by rfl) (by rfl) ?_
          refine go_iload (pc := 171) dX12_years_171 rfl ?_
          refine go_iaload _ (pc := 173) dX12_years_173 (by first | rfl | (apply zM_ar <;> assumption)) (by first | rfl | (apply zM_jn <;> assumption)) rfl (by first | assumption | omega) ?_
          rw [hR4 m (by omega), e4m]
          refine go_top (congrArg (fun z => Value.int (nI z)) hHd) ?_
          refine go_iastore m (pc := 174) dX12_years_174 rfl rfl rfl (by omega) ?_
          refine go_iincN (pc := 175) dX12_years_175 rfl (by decide) ?_
          refine go_goto 30 (pc := 178) dX12_years_178 (by decide) ?_
          refine go_drop [0, 1, 2, 3] rfl ?_
          refine k _ (hR4.up.cg (fun q hq => yr_row (by omega) (by omega) hmq (by omega) q)) (hd4.trans (yr_d1 (by omega)).symm) (hF4.uA (by simp))
        · first | rw [nI_eq (by omega) (by omega)] at h134 | rw [zi_eqN (by omega)] at h134 | rw [zi_Neq (by omega)] at h134 | rw [zi_eq] at h134
          have h134 : a = 4 := by omega
          refine go_aload_n (i := 0) (pc := 137) dX12_years_137 rfl rfl ?_
          refine go_aload_n (i := 0) (pc := 138) dX12_years_138 rfl rfl ?_
          refine go_getr2 fl_X12_39 (pc := 139) dX12_years_139 (by rfl) (by rfl) (by rfl) ?_
          refine go_iload (pc := 142) dX12_years_142 rfl ?_
          refine go_callV ml_X12_247 mt_X12_isGate (pc := 144) dX12_years_144 (c_X12_isGate (j := 8) (ρ := va_up ρ (12 + m) (yMen a (ρ (12 + m)))) rfl hR4 (by rw [e424]; exact hgl) (by omega)) (by rfl) rfl (by rfl) (by decide) (by decide) rfl rfl (Nat.le_of_ble_eq_true rfl) (fun r σ' hp => ?_)
          obtain ⟨rfl, hσ⟩ := hp
          rw [hσ]
          clear hσ
          dsimp only [zRet]
          rw [e424]
          refine go_if_ne 167 (pc := 147) dX12_years_147 (by decide) (fun h147 => ?_) (fun h147 => ?_)
          · rw [zb_0] at h147
            have hHd := yHed_g (a := a) (x := ρ m) h147
            refine go_aload_n (i := 0) (pc := 167) dX12_years_167 rfl rfl ?_
            refine go_getr2 fl_X12_39 (pc := 168) dX12_years_168 (by rfl) (by rfl) (by rfl) ?_
            refine go_iload (pc := 171) dX12_years_171 rfl ?_
            refine go_iaload _ (pc := 173) dX12_years_173 (by first | rfl | (apply zM_ar <;> assumption)) (by first | rfl | (apply zM_jn <;> assumption)) rfl (by first | assumption | omega) ?_
            rw [hR4 m (by omega), e4m]
            refine go_top (congrArg (fun z => Value.int (nI z)) hHd) ?_
            refine go_iastore m (pc := 174) dX12_years_174 rfl rfl rfl (by omega) ?_
            refine go_iincN (pc := 175) dX12_years_175 rfl (by decide) ?_
            refine go_goto 30 (pc := 178) dX12_years_178 (by decide) ?_
            refine go_drop [0, 1, 2, 3] rfl ?_
            refine k _ (hR4.up.cg (fun q hq => yr_row (by omega) (by omega) hmq (by omega) q)) (hd4.trans (yr_d1 (by omega)).symm) (hF4.uA (by simp))
          · rw [zb_0] at h147
            have hHd := yHed_y (x := ρ m) h134 h147
            refine go_bipush (nI 9) (pc := 150) dX12_years_150 (by decide) ?_
            refine go_aload_n (i := 0) (pc := 152) dX12_years_152 rfl rfl ?_
            refine go_getr2 fl_X12_39 (pc := 153) dX12_years_153 (by rfl) (by rfl) (by rfl) ?_
            refine go_iload (pc := 156) dX12_years_156 rfl ?_
            refine go_iaload _ (pc := 158) dX12_years_158 (by first | rfl | (apply zM_ar <;> assumption)) (by first | rfl | (apply zM_jn <;> assumption)) rfl (by first | assumption | omega) ?_
            rw [hR4 m (by omega), e4m]
            refine go_iconst (nI 2) (pc := 159) dX12_years_159 (by decide) ?_
            first | with_reducible refine go_iaddN (pc := 160) dX12_years_160 ?_ | refine go_iadd (pc := 160) dX12_years_160 ?_
            refine go_callS ml_X12_127 mt_J9_min_7cf53 (pc := 161) dX12_years_161 (c_J9_minN (by decide) (by omega)) (by decide) (by decide) rfl rfl (Nat.le_of_ble_eq_true rfl) (fun r σ' hp => ?_)
            obtain ⟨rfl, hσ⟩ := hp
            rw [hσ]
            clear hσ
            dsimp only [zRet]
            refine go_goto 174 (pc := 164) dX12_years_164 (by decide) ?_
            refine go_top (congrArg (fun z => Value.int (nI z)) hHd) ?_
            refine go_iastore m (pc := 174) dX12_years_174 rfl rfl rfl (by omega) ?_
            refine go_iincN (pc := 175) dX12_years_175 rfl (by decide) ?_
            refine go_goto 30 (pc := 178) dX12_years_178 (by decide) ?_
            refine go_drop [0, 1, 2, 3] rfl ?_
            refine k _ (hR4.up.cg (fun q hq => yr_row (by omega) (by omega) hmq (by omega) q)) (hd4.trans (yr_d1 (by omega)).symm) (hF4.uA (by simp))
      · first | rw [nI_eq (by omega) (by omega)] at h83 | rw [zi_eqN (by omega)] at h83 | rw [zi_Neq (by omega)] at h83 | rw [zi_eq] at h83
        have h83 : a = 3 := by omega
        have hMn := yMen_3 (x := ρ (12 + m)) h83 hx9
        refine go_iconst (-1) (pc := 86) dX12_years_86 (by decide) ?_
        refine go_goto 91 (pc := 87) dX12_years_87 (by decide) ?_
        refine go_istore (pc := 91) dX12_years_91 (by decide) ?_
        refine go_aload_n (i := 0) (pc := 93) dX12_years_93 rfl rfl ?_
        refine go_getr2 fl_X12_39 (pc := 94) dX12_years_94 (by rfl) (by rfl) (by rfl) ?_
        refine go_bipush (nI 12) (pc := 97) dX12_years_97 (by decide) ?_
        refine go_iload (pc := 99) dX12_years_99 rfl ?_
        first | with_reducible refine go_iaddN (pc := 101) dX12_years_101 ?_ | refine go_iadd (pc := 101) dX12_years_101 ?_
        refine go_iconst (nI 0) (pc := 102) dX12_years_102 (by decide) ?_
        refine go_bipush (nI 9) (pc := 103) dX12_years_103 (by decide) ?_
        refine go_aload_n (i := 0) (pc := 105) dX12_years_105 rfl rfl ?_
        refine go_getr2 fl_X12_39 (pc := 106) dX12_years_106 (by rfl) (by rfl) (by rfl) ?_
        refine go_bipush (nI 12) (pc := 109) dX12_years_109 (by decide) ?_
        refine go_iload (pc := 111) dX12_years_111 rfl ?_
        first | with_reducible refine go_iaddN (pc := 113) dX12_years_113 ?_ | refine go_iadd (pc := 113) dX12_years_113 ?_
        refine go_iaload (12 + m) (pc := 114) dX12_years_114 rfl rfl rfl (by omega) ?_
        rw [hR3 (12 + m) (by omega)]
        refine go_iload (pc := 115) dX12_years_115 rfl ?_
        first | with_reducible refine go_iaddN (pc := 117) dX12_years_117 ?_ | refine go_iadd (pc := 117) dX12_years_117 ?_
        refine go_callS ml_X12_127 mt_J9_min_7cf53 (pc := 118) dX12_years_118 (c_J9_min_7cf53) (by decide) (by decide) rfl rfl (Nat.le_of_ble_eq_true rfl) (fun r σ' hp => ?_)
        obtain ⟨rfl, hσ⟩ := hp
        rw [hσ]
        clear hσ
        dsimp only [zRet]
        refine go_callS ml_X12_244 mt_J9_max_7cf53 (pc := 121) dX12_years_121 (c_J9_max_7cf53) (by decide) (by decide) rfl rfl (Nat.le_of_ble_eq_true rfl) (fun r σ' hp => ?_)
        obtain ⟨rfl, hσ⟩ := hp
        rw [hσ]
        clear hσ
        dsimp only [zRet]
        rw [clp_m9]
        refine go_top (congrArg (fun z => Value.int (nI z)) hMn) ?_
        refine go_iastore (12 + m) (pc := 124) dX12_years_124 rfl rfl rfl (by omega) ?_
        have hR4 := hR3.up (i := 12 + m) (v := yMen a (ρ (12 + m)))
        have hF4 : Fr9 [27, 28, 43] [13, 14, 16, 8] τ (uA τ3 33 8 (upd (τ3.2.1 33 8) (12 + m) (nI (yMen a (ρ (12 + m)))))) := hF3.uA (by simp)
        have hd4 : (uA τ3 33 8 (upd (τ3.2.1 33 8) (12 + m) (nI (yMen a (ρ (12 + m)))))).1 33 43 = drN (drN d) := hd3
        generalize uA τ3 33 8 (upd (τ3.2.1 33 8) (12 + m) (nI (yMen a (ρ (12 + m))))) = τ4 at hR4 hF4 hd4 ⊢
        clear hR3 hF3 hd3
        have e4m : va_up ρ (12 + m) (yMen a (ρ (12 + m))) m = ρ m := by rw [va_at', if_neg (by omega)]
        have e424 : va_up ρ (12 + m) (yMen a (ρ (12 + m))) 24 = ρ 24 := by rw [va_at', if_neg (by omega)]
        refine go_aload_n (i := 0) (pc := 125) dX12_years_125 rfl rfl ?_
        refine go_getr2 fl_X12_39 (pc := 126) dX12_years_126 (by rfl) (by rfl) (by rfl) ?_
        refine go_iload (pc := 129) dX12_years_129 rfl ?_
        refine go_iload (pc := 131) dX12_years_131 rfl ?_
        refine go_iconst (nI 4) (pc := 133) dX12_years_133 (by decide) ?_
        refine go_icmp_ne 167 (pc := 134) dX12_years_134 (by decide) (fun h134 => ?_) (fun h134 => ?_)
        · first | rw [nI_eq (by omega) (by omega)] at h134 | rw [zi_eqN (by omega)] at h134 | rw [zi_Neq (by omega)] at h134 | rw [zi_eq] at h134
          have hHd := yHed_n (x := ρ m) (g := (ρ 24).testBit m) h134
          refine go_aload_n (i := 0) (pc := 167) dX12_years_167 rfl rfl ?_
          refine go_getr2 fl_X12_39 (pc := 168) dX12_years_168 (by rfl) (by rfl) (by rfl) ?_
          refine go_iload (pc := 171) dX12_years_171 rfl ?_
          refine go_iaload _ (pc := 173) dX12_years_173 (by first | rfl | (apply zM_ar <;> assumption)) (by first | rfl | (apply zM_jn <;> assumption)) rfl (by first | assumption | omega) ?_
          rw [hR4 m (by omega), e4m]
          refine go_top (congrArg (fun z => Value.int (nI z)) hHd) ?_
          refine go_iastore m (pc := 174) dX12_years_174 rfl rfl rfl (by omega) ?_
          refine go_iincN (pc := 175) dX12_years_175 rfl (by decide) ?_
          refine go_goto 30 (pc := 178) dX12_years_178 (by decide) ?_
          refine go_drop [0, 1, 2, 3] rfl ?_
          refine k _ (hR4.up.cg (fun q hq => yr_row (by omega) (by omega) hmq (by omega) q)) (hd4.trans (yr_d1 (by omega)).symm) (hF4.uA (by simp))
        · first | rw [nI_eq (by omega) (by omega)] at h134 | rw [zi_eqN (by omega)] at h134 | rw [zi_Neq (by omega)] at h134 | rw [zi_eq] at h134
          have h134 : a = 4 := by omega
          refine go_aload_n (i := 0) (pc := 137) dX12_years_137 rfl rfl ?_
          refine go_aload_n (i := 0) (pc := 138) dX12_years_138 rfl rfl ?_
          refine go_getr2 fl_X12_39 (pc := 139) dX12_years_139 (by rfl) (by rfl) (by rfl) ?_
          refine go_iload (pc := 142) dX12_years_142 rfl ?_
          refine go_callV ml_X12_247 mt_X12_isGate (pc := 144) dX12_years_144 (c_X12_isGate (j := 8) (ρ := va_up ρ (12 + m) (yMen a (ρ (12 + m)))) rfl hR4 (by rw [e424]; exact hgl) (by omega)) (by rfl) rfl (by rfl) (by decide) (by decide) rfl rfl (Nat.le_of_ble_eq_true rfl) (fun r σ' hp => ?_)
          obtain ⟨rfl, hσ⟩ := hp
          rw [hσ]
          clear hσ
          dsimp only [zRet]
          rw [e424]
          refine go_if_ne 167 (pc := 147) dX12_years_147 (by decide) (fun h147 => ?_) (fun h147 => ?_)
          · rw [zb_0] at h147
            have hHd := yHed_g (a := a) (x := ρ m) h147
            refine go_aload_n (i := 0) (pc := 167) dX12_years_167 rfl rfl ?_
            refine go_getr2 fl_X12_39 (pc := 168) dX12_years_168 (by rfl) (by rfl) (by rfl) ?_
            refine go_iload (pc := 171) dX12_years_171 rfl ?_
            refine go_iaload _ (pc := 173) dX12_years_173 (by first | rfl | (apply zM_ar <;> assumption)) (by first | rfl | (apply zM_jn <;> assumption)) rfl (by first | assumption | omega) ?_
            rw [hR4 m (by omega), e4m]
            refine go_top (congrArg (fun z => Value.int (nI z)) hHd) ?_
            refine go_iastore m (pc := 174) dX12_years_174 rfl rfl rfl (by omega) ?_
            refine go_iincN (pc := 175) dX12_years_175 rfl (by decide) ?_
            refine go_goto 30 (pc := 178) dX12_years_178 (by decide) ?_
            refine go_drop [0, 1, 2, 3] rfl ?_
            refine k _ (hR4.up.cg (fun q hq => yr_row (by omega) (by omega) hmq (by omega) q)) (hd4.trans (yr_d1 (by omega)).symm) (hF4.uA (by simp))
          · rw [zb_0] at h147
            have hHd := yHed_y (x := ρ m) h134 h147
            refine go_bipush (nI 9) (pc := 150) dX12_years_150 (by decide) ?_
            refine go_aload_n (i := 0) (pc := 152) dX12_years_152 rfl rfl ?_
            refine go_getr2 fl_X12_39 (pc := 153) dX12_years_153 (by rfl) (by rfl) (by rfl) ?_
            refine go_iload (pc := 156) dX12_years_156 rfl ?_
            refine go_iaload _ (pc := 158) dX12_years_158 (by first | rfl | (apply zM_ar <;> assumption)) (by first | rfl | (apply zM_jn <;> assumption)) rfl (by first | assumption | omega) ?_
            rw [hR4 m (by omega), e4m]
            refine go_iconst (nI 2) (pc := 159) dX12_years_159 (by decide) ?_
            first | with_reducible refine go_iaddN (pc := 160) dX12_years_160 ?_ | refine go_iadd (pc := 160) dX12_years_160 ?_
            refine go_callS ml_X12_127 mt_J9_min_7cf53 (pc := 161) dX12_years_161 (c_J9_minN (by decide) (by omega)) (by decide) (by decide) rfl rfl (Nat.le_of_ble_eq_true rfl) (fun r σ' hp => ?_)
            obtain ⟨rfl, hσ⟩ := hp
            rw [hσ]
            clear hσ
            dsimp only [zRet]
            refine go_goto 174 (pc := 164) dX12_years_164 (by decide) ?_
            refine go_top (congrArg (fun z => Value.int (nI z)) hHd) ?_
            refine go_iastore m (pc := 174) dX12_years_174 rfl rfl rfl (by omega) ?_
            refine go_iincN (pc := 175) dX12_years_175 rfl (by decide) ?_
            refine go_goto 30 (pc := 178) dX12_years_178 (by decide) ?_
            refine go_drop [0, 1, 2, 3] rfl ?_
            refine k _ (hR4.up.cg (fun q hq => yr_row (by omega) (by omega) hmq (by omega) q)) (hd4.trans (yr_d1 (by omega)).symm) (hF4.uA (by simp))
    · first | rw [nI_eq (by omega) (by omega)] at h73 | rw [zi_eqN (by omega)] at h73 | rw [zi_Neq (by omega)] at h73 | rw [zi_eq] at h73
      have h73 : a = 2 := by omega
      have hMn := yMen_2 (x := ρ (12 + m)) h73 hx9
      refine go_iconst (nI 1) (pc := 76) dX12_years_76 (by decide) ?_
      refine go_goto 91 (pc := 77) dX12_years_77 (by decide) ?_
      refine go_istore (pc := 91) dX12_years_91 (by decide) ?_
      refine go_aload_n (i := 0) (pc := 93) dX12_years_93 rfl rfl ?_
      refine go_getr2 fl_X12_39 (pc := 94) dX12_years_94 (by rfl) (by rfl) (by rfl) ?_
      refine go_bipush (nI 12) (pc := 97) dX12_years_97 (by decide) ?_
      refine go_iload (pc := 99) dX12_years_99 rfl ?_
      first | with_reducible refine go_iaddN (pc := 101) dX12_years_101 ?_ | refine go_iadd (pc := 101) dX12_years_101 ?_
      refine go_iconst (nI 0) (pc := 102) dX12_years_102 (by decide) ?_
      refine go_bipush (nI 9) (pc := 103) dX12_years_103 (by decide) ?_
      refine go_aload_n (i := 0) (pc := 105) dX12_years_105 rfl rfl ?_
      refine go_getr2 fl_X12_39 (pc := 106) dX12_years_106 (by rfl) (by rfl) (by rfl) ?_
      refine go_bipush (nI 12) (pc := 109) dX12_years_109 (by decide) ?_
      refine go_iload (pc := 111) dX12_years_111 rfl ?_
      first | with_reducible refine go_iaddN (pc := 113) dX12_years_113 ?_ | refine go_iadd (pc := 113) dX12_years_113 ?_
      refine go_iaload (12 + m) (pc := 114) dX12_years_114 rfl rfl rfl (by omega) ?_
      rw [hR3 (12 + m) (by omega)]
      refine go_iload (pc := 115) dX12_years_115 rfl ?_
      first | with_reducible refine go_iaddN (pc := 117) dX12_years_117 ?_ | refine go_iadd (pc := 117) dX12_years_117 ?_
      refine go_callS ml_X12_127 mt_J9_min_7cf53 (pc := 118) dX12_years_118 (c_J9_min_7cf53) (by decide) (by decide) rfl rfl (Nat.le_of_ble_eq_true rfl) (fun r σ' hp => ?_)
      obtain ⟨rfl, hσ⟩ := hp
      rw [hσ]
      clear hσ
      dsimp only [zRet]
      refine go_callS ml_X12_244 mt_J9_max_7cf53 (pc := 121) dX12_years_121 (c_J9_max_7cf53) (by decide) (by decide) rfl rfl (Nat.le_of_ble_eq_true rfl) (fun r σ' hp => ?_)
      obtain ⟨rfl, hσ⟩ := hp
      rw [hσ]
      clear hσ
      dsimp only [zRet]
      rw [clp_m9]
      refine go_top (congrArg (fun z => Value.int (nI z)) hMn) ?_
      refine go_iastore (12 + m) (pc := 124) dX12_years_124 rfl rfl rfl (by omega) ?_
      have hR4 := hR3.up (i := 12 + m) (v := yMen a (ρ (12 + m)))
      have hF4 : Fr9 [27, 28, 43] [13, 14, 16, 8] τ (uA τ3 33 8 (upd (τ3.2.1 33 8) (12 + m) (nI (yMen a (ρ (12 + m)))))) := hF3.uA (by simp)
      have hd4 : (uA τ3 33 8 (upd (τ3.2.1 33 8) (12 + m) (nI (yMen a (ρ (12 + m)))))).1 33 43 = drN (drN d) := hd3
      generalize uA τ3 33 8 (upd (τ3.2.1 33 8) (12 + m) (nI (yMen a (ρ (12 + m))))) = τ4 at hR4 hF4 hd4 ⊢
      clear hR3 hF3 hd3
      have e4m : va_up ρ (12 + m) (yMen a (ρ (12 + m))) m = ρ m := by rw [va_at', if_neg (by omega)]
      have e424 : va_up ρ (12 + m) (yMen a (ρ (12 + m))) 24 = ρ 24 := by rw [va_at', if_neg (by omega)]
      refine go_aload_n (i := 0) (pc := 125) dX12_years_125 rfl rfl ?_
      refine go_getr2 fl_X12_39 (pc := 126) dX12_years_126 (by rfl) (by rfl) (by rfl) ?_
      refine go_iload (pc := 129) dX12_years_129 rfl ?_
      refine go_iload (pc := 131) dX12_years_131 rfl ?_
      refine go_iconst (nI 4) (pc := 133) dX12_years_133 (by decide) ?_
      refine go_icmp_ne 167 (pc := 134) dX12_years_134 (by decide) (fun h134 => ?_) (fun h134 => ?_)
      · first | rw [nI_eq (by omega) (by omega)] at h134 | rw [zi_eqN (by omega)] at h134 | rw [zi_Neq (by omega)] at h134 | rw [zi_eq] at h134
        have hHd := yHed_n (x := ρ m) (g := (ρ 24).testBit m) h134
        refine go_aload_n (i := 0) (pc := 167) dX12_years_167 rfl rfl ?_
        refine go_getr2 fl_X12_39 (pc := 168) dX12_years_168 (by rfl) (by rfl) (by rfl) ?_
        refine go_iload (pc := 171) dX12_years_171 rfl ?_
        refine go_iaload _ (pc := 173) dX12_years_173 (by first | rfl | (apply zM_ar <;> assumption)) (by first | rfl | (apply zM_jn <;> assumption)) rfl (by first | assumption | omega) ?_
        rw [hR4 m (by omega), e4m]
        refine go_top (congrArg (fun z => Value.int (nI z)) hHd) ?_
        refine go_iastore m (pc := 174) dX12_years_174 rfl rfl rfl (by omega) ?_
        refine go_iincN (pc := 175) dX12_years_175 rfl (by decide) ?_
        refine go_goto 30 (pc := 178) dX12_years_178 (by decide) ?_
        refine go_drop [0, 1, 2, 3] rfl ?_
        refine k _ (hR4.up.cg (fun q hq => yr_row (by omega) (by omega) hmq (by omega) q)) (hd4.trans (yr_d1 (by omega)).symm) (hF4.uA (by simp))
      · first | rw [nI_eq (by omega) (by omega)] at h134 | rw [zi_eqN (by omega)] at h134 | rw [zi_Neq (by omega)] at h134 | rw [zi_eq] at h134
        have h134 : a = 4 := by omega
        refine go_aload_n (i := 0) (pc := 137) dX12_years_137 rfl rfl ?_
        refine go_aload_n (i := 0) (pc := 138) dX12_years_138 rfl rfl ?_
        refine go_getr2 fl_X12_39 (pc := 139) dX12_years_139 (by rfl) (by rfl) (by rfl) ?_
        refine go_iload (pc := 142) dX12_years_142 rfl ?_
        refine go_callV ml_X12_247 mt_X12_isGate (pc := 144) dX12_years_144 (c_X12_isGate (j := 8) (ρ := va_up ρ (12 + m) (yMen a (ρ (12 + m)))) rfl hR4 (by rw [e424]; exact hgl) (by omega)) (by rfl) rfl (by rfl) (by decide) (by decide) rfl rfl (Nat.le_of_ble_eq_true rfl) (fun r σ' hp => ?_)
        obtain ⟨rfl, hσ⟩ := hp
        rw [hσ]
        clear hσ
        dsimp only [zRet]
        rw [e424]
        refine go_if_ne 167 (pc := 147) dX12_years_147 (by decide) (fun h147 => ?_) (fun h147 => ?_)
        · rw [zb_0] at h147
          have hHd := yHed_g (a := a) (x := ρ m) h147
          refine go_aload_n (i := 0) (pc := 167) dX12_years_167 rfl rfl ?_
          refine go_getr2 fl_X12_39 (pc := 168) dX12_years_168 (by rfl) (by rfl) (by rfl) ?_
          refine go_iload (pc := 171) dX12_years_171 rfl ?_
          refine go_iaload _ (pc := 173) dX12_years_173 (by first | rfl | (apply zM_ar <;> assumption)) (by first | rfl | (apply zM_jn <;> assumption)) rfl (by first | assumption | omega) ?_
          rw [hR4 m (by omega), e4m]
          refine go_top (congrArg (fun z => Value.int (nI z)) hHd) ?_
          refine go_iastore m (pc := 174) dX12_years_174 rfl rfl rfl (by omega) ?_
          refine go_iincN (pc := 175) dX12_years_175 rfl (by decide) ?_
          refine go_goto 30 (pc := 178) dX12_years_178 (by decide) ?_
          refine go_drop [0, 1, 2, 3] rfl ?_
          refine k _ (hR4.up.cg (fun q hq => yr_row (by omega) (by omega) hmq (by omega) q)) (hd4.trans (yr_d1 (by omega)).symm) (hF4.uA (by simp))
        · rw [zb_0] at h147
          have hHd := yHed_y (x := ρ m) h134 h147
          refine go_bipush (nI 9) (pc := 150) dX12_years_150 (by decide) ?_
          refine go_aload_n (i := 0) (pc := 152) dX12_years_152 rfl rfl ?_
          refine go_getr2 fl_X12_39 (pc := 153) dX12_years_153 (by rfl) (by rfl) (by rfl) ?_
          refine go_iload (pc := 156) dX12_years_156 rfl ?_
          refine go_iaload _ (pc := 158) dX12_years_158 (by first | rfl | (apply zM_ar <;> assumption)) (by first | rfl | (apply zM_jn <;> assumption)) rfl (by first | assumption | omega) ?_
          rw [hR4 m (by omega), e4m]
          refine go_iconst (nI 2) (pc := 159) dX12_years_159 (by decide) ?_
          first | with_reducible refine go_iaddN (pc := 160) dX12_years_160 ?_ | refine go_iadd (pc := 160) dX12_years_160 ?_
          refine go_callS ml_X12_127 mt_J9_min_7cf53 (pc := 161) dX12_years_161 (c_J9_minN (by decide) (by omega)) (by decide) (by decide) rfl rfl (Nat.le_of_ble_eq_true rfl) (fun r σ' hp => ?_)
          obtain ⟨rfl, hσ⟩ := hp
          rw [hσ]
          clear hσ
          dsimp only [zRet]
          refine go_goto 174 (pc := 164) dX12_years_164 (by decide) ?_
          refine go_top (congrArg (fun z => Value.int (nI z)) hHd) ?_
          refine go_iastore m (pc := 174) dX12_years_174 rfl rfl rfl (by omega) ?_
          refine go_iincN (pc := 175) dX12_years_175 rfl (by decide) ?_
          refine go_goto 30 (pc := 178) dX12_years_178 (by decide) ?_
          refine go_drop [0, 1, 2, 3] rfl ?_
          refine k _ (hR4.up.cg (fun q hq => yr_row (by omega) (by omega) hmq (by omega) q)) (hd4.trans (yr_d1 (by omega)).symm) (hF4.uA (by simp))
  · first | rw [nI_leI (by omega) (by omega)] at h45 | rw [zi_leN (by omega)] at h45 | rw [zi_Nle (by omega)] at h45 | rw [zi_le] at h45
    refine go_aload_n (i := 0) (pc := 48) dX12_years_48 rfl rfl ?_
    refine go_aload_n (i := 0) (pc := 49) dX12_years_49 rfl rfl ?_
    refine go_getr2 fl_X12_39 (pc := 50) dX12_years_50 (by rfl) (by rfl) (by rfl) ?_
    refine go_callV ml_X12_298 mt_X12_weekGoes (pc := 53) dX12_years_53 (c_X12_weekGoes (V := V) (j := 8) hE2 hR2 a1 rfl h27 h28) (by rfl) rfl (by rfl) (by decide) (by decide) rfl rfl (Nat.le_of_ble_eq_true rfl) (fun r σ' hp => ?_)
    obtain ⟨rfl, hR3, hFd⟩ := hp
    dsimp only [zRet]
    have hF3 := hF2.tr (hFd.mono (by simp) (by simp))
    have hd3 : σ'.1 33 43 = drN d := by rw [hFd.2.1 _ (by decide)]; exact hd2
    refine go_pop (pc := 56) dX12_years_56 rfl ?_
    refine go_goto 175 (pc := 57) dX12_years_57 (by decide) ?_
    refine go_iincN (pc := 175) dX12_years_175 rfl (by decide) ?_
    refine go_goto 30 (pc := 178) dX12_years_178 (by decide) ?_
    refine go_drop [0, 1, 2, 3] rfl ?_
    exact k _ (by rw [yr_r0 (by omega)]; exact hR3) (by rw [yr_d0 (by omega)]; exact hd3) hF3

theorem c_X12_years {E : zE} {σ : zT} {tx : Nat × (Nat → Nat)} {bd : Nat × (Nat → Nat) × (Nat → Nat)} {sk : Nat × (Nat → Nat)} {tw : Nat × (Nat → Nat) × (Nat → Nat)} {xs : List Nat} {ld : Nat × (Nat → Nat)} {pa sh : Nat × (Nat → Nat → Nat)} {ru : Nat × (Nat → Nat) × (Nat → Nat)} {to : Nat × (Nat → Int64)} {s n : Int32} (hC : RefIs σ tx bd sk tw xs ld pa sh ru to) (hro : Roomy ld.2) : CalM E 9 yX12_years cX12_years 7 (some .int) [.ref (zA E 33 0), .int s, .int n] σ (fun r σ' => r = some (.int (if (1 ≤ n.toInt ∧ n.toInt ≤ 60) then nI (yrs (vOf bd sk xs ld.1) s ld.2 n.toInt.toNat).2.2 else -1)) ∧ RefIs σ' tx bd sk tw xs ld pa sh ru (if (1 ≤ n.toInt ∧ n.toInt ≤ 60) then (2, ln2 (lN (hedSum ld.1 (yrs (vOf bd sk xs ld.1) s ld.2 n.toInt.toNat).2.1)) (lN (menSum ld.1 (yrs (vOf bd sk xs ld.1) s ld.2 n.toInt.toNat).2.1))) else to) ∧ FrG [33] σ σ') := by
  refine cal_of_go (own := RX12) rfl (by decide +kernel) (Nat.le_of_ble_eq_true rfl) ?_
  have hN := hC.2.2.2.2.2.1
  have hn : 1 ≤ ld.1 ∧ ld.1 ≤ 12 := ⟨hN.2.1.1, hN.2.1.2.1⟩
  have hV := hC.env.vok hN.2.1
  have hok := hN.2.1
  have main : ∀ n1 : Nat, 1 ≤ n1 → n1 ≤ 60 → ∀ τ, RwIs τ 8 ld.2 → τ.1 33 43 = s → Fr9 [0, 27, 28, 43] [13, 14, 16, 8] σ τ → GoM E 9 RX12 cX12_years 7 (some .int) (fun r σ' => r = some (.int (nI (yrs (vOf bd sk xs ld.1) s ld.2 n1).2.2)) ∧ RefIs σ' tx bd sk tw xs ld pa sh ru (2, ln2 (lN (hedSum ld.1 (yrs (vOf bd sk xs ld.1) s ld.2 n1).2.1)) (lN (menSum ld.1 (yrs (vOf bd sk xs ld.1) s ld.2 n1).2.1))) ∧ FrG [33] σ σ') τ 28 [(0, .ref (zA E 33 0)), (1, .int s), (2, .int (nI n1))] [] := by
    intro n1 hn0 hn1
    have loop : ∀ (i : Nat) (τ : zT), i ≤ n1 → (RwIs τ 8 (yrs (vOf bd sk xs ld.1) s ld.2 i).2.1) → (τ.1 33 43 = (yrs (vOf bd sk xs ld.1) s ld.2 i).1) → (Fr9 [0, 27, 28, 43] [13, 14, 16, 8] σ τ) → GoM E 9 RX12 cX12_years 7 (some .int) (fun r σ' => r = some (.int (nI (yrs (vOf bd sk xs ld.1) s ld.2 n1).2.2)) ∧ RefIs σ' tx bd sk tw xs ld pa sh ru (2, ln2 (lN (hedSum ld.1 (yrs (vOf bd sk xs ld.1) s ld.2 n1).2.1)) (lN (menSum ld.1 (yrs (vOf bd sk xs ld.1) s ld.2 n1).2.1))) ∧ FrG [33] σ σ') τ 30 [(0, .ref (zA E 33 0)), (1, .int s), (2, .int (nI n1)), (3, .int (nI i))] [] := by
      intro i
      induction hz : n1 - i using Nat.strongRecOn generalizing i with
      | ind z ih =>
        intro τ hi hR hd hF
        obtain ⟨a1, a2, a3, a4⟩ := yrs_ok (s := s) hV hok i (by omega) (by omega)
        have hCt := hC.fr hF (by decide) (by decide)
        refine go_iload_n (i := 3) (pc := 30) dX12_years_30 rfl rfl ?_
        refine go_iload_n (i := 2) (pc := 31) dX12_years_31 rfl rfl ?_
        refine go_icmp_ge 181 (pc := 32) dX12_years_32 (by decide) (fun h32 => ?_) (fun h32 => ?_)
        · first | rw [nI_leI (by omega) (by omega)] at h32 | rw [zi_leN (by omega)] at h32 | rw [zi_Nle (by omega)] at h32 | rw [zi_le] at h32
          have e : i = n1 := by omega
          subst e
          refine go_aload_n (i := 0) (pc := 181) dX12_years_181 rfl rfl ?_
          refine go_iconst (nI 0) (pc := 182) dX12_years_182 (by decide) ?_
          refine go_puti fp_X12_104 (pc := 183) dX12_years_183 (by rfl) rfl rfl ?_
          have hFt : Fr9 [0, 1, 27, 28, 43] [1, 13, 14, 16, 8] σ (uS τ 33 1 (nI 0)) := (hF.mono (by simp) (by simp)).uS (by simp)
          have hz1 : (uS τ 33 1 (nI 0)).1 33 1 = nI 0 := uS_s _ _ _ _
          have hRt : RwIs (uS τ 33 1 (nI 0)) 8 _ := hR
          have h3t : (uS τ 33 1 (nI 0)).1 33 3 = nI ld.1 := hCt.2.2.2.2.2.1.1
          have h7t : RwIs (uS τ 33 1 (nI 0)) 7 ld.2 := hCt.2.2.2.2.2.1.2.2
          generalize uS τ 33 1 (nI 0) = τt at hFt hz1 hRt h3t h7t ⊢
          refine go_aload_n (i := 0) (pc := 186) dX12_years_186 rfl rfl ?_
          refine go_aload_n (i := 0) (pc := 187) dX12_years_187 rfl rfl ?_
          refine go_aload_n (i := 0) (pc := 188) dX12_years_188 rfl rfl ?_
          refine go_getr2 fl_X12_39 (pc := 189) dX12_years_189 (by rfl) (by rfl) (by rfl) ?_
          refine go_callV ml_X12_337 mt_X12_allHedge (pc := 192) dX12_years_192 (c_X12_allHedge (j := 8) rfl hRt a1 h3t) (by rfl) rfl (by rfl) (by decide) (by decide) rfl rfl (Nat.le_of_ble_eq_true rfl) (fun r σ' hp => ?_)
          obtain ⟨rfl, hσ⟩ := hp
          rw [hσ]
          clear hσ
          dsimp only [zRet]
          have h108 := hedSum_le a1
          refine go_i2l (pc := 195) dX12_years_195 ?_
          rw [nI_l (Nat.lt_of_le_of_lt h108 (by decide))]
          refine go_callV ml_X12_333 mt_X12_enters (pc := 196) dX12_years_196 (c_tell1 hz1) (by rfl) rfl (by rfl) (by decide) (by decide) rfl rfl (Nat.le_of_ble_eq_true rfl) (fun r σ' hp => ?_)
          obtain ⟨rfl, hT1, hF1⟩ := hp
          dsimp only [zRet]
          have hFu := hFt.tr (hF1.mono (by simp) (by simp))
          refine go_aload_n (i := 0) (pc := 199) dX12_years_199 rfl rfl ?_
          refine go_aload_n (i := 0) (pc := 200) dX12_years_200 rfl rfl ?_
          refine go_aload_n (i := 0) (pc := 201) dX12_years_201 rfl rfl ?_
          refine go_getr2 fl_X12_39 (pc := 202) dX12_years_202 (by rfl) (by rfl) (by rfl) ?_
          refine go_callV ml_X12_259 mt_X12_allMen (pc := 205) dX12_years_205 (c_X12_allMen (j := 8) rfl (hRt.fr hF1 (by decide)) a1 (by rw [hF1.2.1 _ (by decide)]; exact h3t)) (by rfl) rfl (by rfl) (by decide) (by decide) rfl rfl (Nat.le_of_ble_eq_true rfl) (fun r σ' hp => ?_)
          obtain ⟨rfl, hσ⟩ := hp
          rw [hσ]
          clear hσ
          dsimp only [zRet]
          have h1082 := menSum_le a1
          refine go_i2l (pc := 208) dX12_years_208 ?_
          rw [nI_l (Nat.lt_of_le_of_lt h1082 (by decide))]
          refine go_callV ml_X12_333 mt_X12_enters (pc := 209) dX12_years_209 (c_tell2 hT1) (by rfl) rfl (by rfl) (by decide) (by decide) rfl rfl (Nat.le_of_ble_eq_true rfl) (fun r σ' hp => ?_)
          obtain ⟨rfl, hT2, hF2⟩ := hp
          dsimp only [zRet]
          have hFv := hFu.tr (hF2.mono (by simp) (by simp))
          refine go_aload_n (i := 0) (pc := 212) dX12_years_212 rfl rfl ?_
          refine go_getr2 fl_X12_39 (pc := 213) dX12_years_213 (by rfl) (by rfl) (by rfl) ?_
          refine go_bipush (nI 28) (pc := 216) dX12_years_216 (by decide) ?_
          refine go_iaload _ (pc := 218) dX12_years_218 (by first | rfl | (apply zM_ar <;> assumption)) (by first | rfl | (apply zM_jn <;> assumption)) rfl (by first | assumption | omega) ?_
          rw [hRt.fr (hF1.tr hF2) (by decide) 28 (by decide), a3]
          refine go_aload_n (i := 0) (pc := 219) dX12_years_219 rfl rfl ?_
          refine go_getr2 fl_X12_36 (pc := 220) dX12_years_220 (by rfl) (by rfl) (by rfl) ?_
          refine go_bipush (nI 28) (pc := 223) dX12_years_223 (by decide) ?_
          refine go_iaload _ (pc := 225) dX12_years_225 (by first | rfl | (apply zM_ar <;> assumption)) (by first | rfl | (apply zM_jn <;> assumption)) rfl (by first | assumption | omega) ?_
          rw [h7t.fr (hF1.tr hF2) (by decide) 28 (by decide)]
          first | with_reducible refine go_isubN (pc := 226) dX12_years_226 (by omega) ?_ | refine go_isub (pc := 226) dX12_years_226 ?_
          rw [Nat.add_sub_cancel_left]
          refine go_ireturn (pc := 227) dX12_years_227 rfl ?_
          exact ⟨rfl, hC.tell hFv (by decide) (by decide) hT2, hFv.1⟩
        · first | rw [nI_leI (by omega) (by omega)] at h32 | rw [zi_leN (by omega)] at h32 | rw [zi_Nle (by omega)] at h32 | rw [zi_le] at h32
          refine yr_step (V := (vOf bd sk xs ld.1)) hCt.env hR a1 hd (by omega) (by omega) (fun τ2 hR2 hd2 hF2 => ?_)
          exact ih (n1 - (i + 1)) (by omega) (i + 1) rfl _ (by omega) (by rw [yrs_2]; exact hR2) (by rw [yrs_1]; exact hd2) (hF.tr (hF2.mono (by simp) (by simp)))
    intro τ hR hd hF
    refine go_iconst (nI 0) (pc := 28) dX12_years_28 (by decide) ?_
    refine go_istore_n (i := 3) (pc := 29) dX12_years_29 rfl (by decide) ?_
    exact loop 0 τ (by omega) hR hd hF
  refine go_aload_n (i := 0) (pc := 0) dX12_years_0 rfl rfl ?_
  refine go_iconst (nI 0) (pc := 1) dX12_years_1 (by decide) ?_
  refine go_puti fp_X12_97 (pc := 2) dX12_years_2 (by rfl) rfl rfl ?_
  have hF : Fr9 [0, 27, 28, 43] [13, 14, 16, 8] σ (uS σ 33 0 (nI 0)) := Fr9.rf.uS (by simp)
  refine go_iload_n (i := 2) (pc := 5) dX12_years_5 rfl rfl ?_
  refine go_i2l (pc := 6) dX12_years_6 ?_
  refine go_lconst (lN 1) (pc := 7) dX12_years_7 (by decide) ?_
  refine go_ldc2 (60) kc_X12_328 (pc := 8) dX12_years_8 ?_
  refine go_callS ml_X12_107 mt_X12_in (pc := 11) dX12_years_11 (c_in (lo := 1) (hi := 60) (by decide) (by decide)) (by decide) (by decide) rfl rfl (Nat.le_of_ble_eq_true rfl) (fun r σ' hp => ?_)
  obtain ⟨rfl, hσ⟩ := hp
  rw [hσ]
  clear hσ σ'
  dsimp only [zRet]
  refine go_if_ne 19 (pc := 14) dX12_years_14 (by decide) (fun h14 => ?_) (fun h14 => ?_)
  · first | rw [zb_0d] at h14 | rw [zn_eq0 (by omega)] at h14 | rw [zi_eq0] at h14
    rw [if_pos (by omega : (1 ≤ n.toInt ∧ n.toInt ≤ 60)), if_pos (by omega : (1 ≤ n.toInt ∧ n.toInt ≤ 60))]
    have hh : 1 ≤ n.toInt ∧ n.toInt ≤ 60 := by omega
    have en1 := nI_of' (x := n) (by omega)
    generalize hqn1 : n.toInt.toNat = n1 at en1 ⊢
    subst en1
    refine go_aload_n (i := 0) (pc := 19) dX12_years_19 rfl rfl ?_
    refine go_iload_n (i := 1) (pc := 20) dX12_years_20 rfl rfl ?_
    refine go_puti fp_X12_430 (pc := 21) dX12_years_21 (by rfl) rfl rfl ?_
    have hF : Fr9 [0, 27, 28, 43] [13, 14, 16, 8] σ (uS (uS σ 33 0 (nI 0)) 33 43 s) := hF.uS (by simp)
    refine go_aload_n (i := 0) (pc := 24) dX12_years_24 rfl rfl ?_
    refine go_callV ml_X12_356 mt_X12_copies (pc := 25) dX12_years_25 (c_X12_copies (hN.2.2.fr hF (by decide))) (by rfl) rfl (by rfl) (by decide) (by decide) rfl rfl (Nat.le_of_ble_eq_true rfl) (fun r σ' hp => ?_)
    obtain ⟨rfl, hw8, hFc⟩ := hp
    dsimp only [zRet]
    have hF2 := hF.tr (hFc.mono (by simp) (by simp))
    have hd2 : σ'.1 33 43 = s := by rw [hFc.2.1 _ (by decide)]; exact uS_s _ _ _ _
    exact main n1 (by omega) (by omega) _ hw8 hd2 hF2
  · first | rw [zb_0d] at h14 | rw [zn_eq0 (by omega)] at h14 | rw [zi_eq0] at h14
    refine go_iconst (-1) (pc := 17) dX12_years_17 (by decide) ?_
    refine go_ireturn (pc := 18) dX12_years_18 rfl ?_
    rw [if_neg (by omega), if_neg (by omega)]
    exact ⟨rfl, hC.fr hF (by decide) (by decide), hF.1⟩

