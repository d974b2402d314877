theorem clp_m9 (v : Int32) : (if (nI 0).toInt < (if (nI 9).toInt ≤ v.toInt then nI 9 else v).toInt then (if (nI 9).toInt ≤ v.toInt then nI 9 else v) else nI 0) = nI (clp v 9) := by
  have e9 : (nI 9).toInt = 9 := by decide
  have e0 : (nI 0).toInt = 0 := by decide
  rw [← clp_eq (by decide : 9 < 2 ^ 31), e9, e0]
  by_cases h : 9 ≤ v.toInt
  · rw [if_pos h, if_pos (by rw [e9]; omega), if_neg (by omega)]
    by_cases h2 : ((9 : Nat) : Int) < v.toInt
    · rw [if_pos h2]
    · rw [if_neg h2, zi_eq, e9]; omega
  · rw [if_neg h]
    by_cases h2 : v.toInt < 0
    · rw [if_pos h2, if_neg (by omega)]
    · rw [if_neg h2, if_neg (by omega : ¬ ((9 : Nat) : Int) < v.toInt)]
      by_cases h3 : 0 < v.toInt
      · rw [if_pos h3]
      · rw [if_neg h3, zi_eq, e0]; omega
theorem sh_v (f s : Int32) (i : Nat) : f + nI i * s + s = f + nI (i + 1) * s := by
  rw [← nI_add, Int32.add_mul, show nI 1 * s = s by rw [show nI 1 = 1 by decide, Int32.one_mul], Int32.add_assoc]
theorem shE_9 (k n f s : Int32) (m : Nat) : shE k n f s m ≤ 9 := by
  unfold shE
  split
  · omega
  · exact clp_le _ _
theorem shR_ok {n : Nat} {ρ : Nat → Nat} (k e f s : Int32) (h : RowOK n ρ) : ∀ i, i ≤ 12 → RowOK n (shR k e f s ρ i)
  | 0, _ => by rw [shR_0]; exact h
  | i + 1, hi => by rw [← shR_up]; exact (shR_ok k e f s h i (by omega)).lo (by omega) (shE_9 _ _ _ _ _)
theorem shS {n : Nat} (k e f s : Int32) (ρ : Nat → Nat) : hedSum n (shR k e f s ρ n) = sumN n (shE k e f s) := sumN_congr (fun i hi => if_pos hi)

theorem c_X12_sheet {E : zE} {σ : zT} {tx : Nat × (Nat → Nat)} {bd : Nat × (Nat → Nat) × (Nat → Nat)} {sk : Nat × (Nat → Nat)} {tw : Nat × (Nat → Nat) × (Nat → Nat)} {xs : List Nat} {ld : Nat × (Nat → Nat)} {pa sh : Nat × (Nat → Nat → Nat)} {ru : Nat × (Nat → Nat) × (Nat → Nat)} {to : Nat × (Nat → Int64)} {k n f s : Int32} (hC : RefIs σ tx bd sk tw xs ld pa sh ru to) : CalM E 1 yX12_sheet cX12_sheet 9 (some .int) [.ref (zA E 33 0), .int k, .int n, .int f, .int s] σ (fun r σ' => r = some (.int (shA ld.1 ld.2 k n f s).1) ∧ RefIs σ' tx bd sk tw xs (ld.1, (shA ld.1 ld.2 k n f s).2) pa sh ru to ∧ FrG [33] σ σ') := by
  refine cal_of_go (own := RX12) rfl (by decide +kernel) (Nat.le_of_ble_eq_true rfl) ?_
  have hN := hC.2.2.2.2.2.1
  have hn : 1 ≤ ld.1 ∧ ld.1 ≤ 12 := ⟨hN.2.1.1, hN.2.1.2.1⟩
  have hV := hC.env.vok hN.2.1
  have hok := hN.2.1
  have main : ∀ τ, RwIs τ 7 (shR k n f s ld.2 0) → Fr9 [0] [7] σ τ → GoM E 1 RX12 cX12_sheet 9 (some .int) (fun r σ' => r = some (.int (if k.toInt = 3 then -3 else nI (hedSum ld.1 (shR k n f s ld.2 ld.1)), shR k n f s ld.2 ld.1).1) ∧ RefIs σ' tx bd sk tw xs (ld.1, (if k.toInt = 3 then -3 else nI (hedSum ld.1 (shR k n f s ld.2 ld.1)), shR k n f s ld.2 ld.1).2) pa sh ru to ∧ FrG [33] σ σ') τ 37 [(0, .ref (zA E 33 0)), (1, .int k), (2, .int n), (3, .int f), (4, .int s)] [] := by
    have loop : ∀ (i : Nat) (τ : zT), i ≤ ld.1 → (RwIs τ 7 (shR k n f s ld.2 i)) → (Fr9 [0] [7] σ τ) → GoM E 1 RX12 cX12_sheet 9 (some .int) (fun r σ' => r = some (.int (if k.toInt = 3 then -3 else nI (hedSum ld.1 (shR k n f s ld.2 ld.1)), shR k n f s ld.2 ld.1).1) ∧ RefIs σ' tx bd sk tw xs (ld.1, (if k.toInt = 3 then -3 else nI (hedSum ld.1 (shR k n f s ld.2 ld.1)), shR k n f s ld.2 ld.1).2) pa sh ru to ∧ FrG [33] σ σ') τ 46 [(0, .ref (zA E 33 0)), (1, .int k), (2, .int n), (3, .int f), (4, .int s), (5, .int (nI (sumN i (shE k n f s)))), (6, .int (f + nI i * s)), (7, .int (nI i))] [] := by
      intro i
      induction hz : ld.1 - i using Nat.strongRecOn generalizing i with
      | ind z ih =>
        intro τ hi hR hF
        have h3 : τ.1 33 3 = nI ld.1 := by rw [hF.2.1 _ (by decide)]; exact hN.1
        refine go_iload (pc := 46) dX12_sheet_46 rfl ?_
        refine go_aload_n (i := 0) (pc := 48) dX12_sheet_48 rfl rfl ?_
        refine go_geti fl_X12_13 (pc := 49) dX12_sheet_49 (by rfl) ?_
        rw [h3]
        refine go_icmp_ge 138 (pc := 52) dX12_sheet_52 (by decide) (fun h52 => ?_) (fun h52 => ?_)
        · first | rw [nI_leI (by omega) (by omega)] at h52 | rw [zi_leN (by omega)] at h52 | rw [zi_Nle (by omega)] at h52 | rw [zi_le] at h52
          have e : i = ld.1 := by omega
          subst e
          refine go_iload_n (i := 1) (pc := 138) dX12_sheet_138 rfl rfl ?_
          refine go_iconst (nI 3) (pc := 139) dX12_sheet_139 (by decide) ?_
          refine go_icmp_ne 148 (pc := 140) dX12_sheet_140 (by decide) (fun h140 => ?_) (fun h140 => ?_)
          · first | rw [nI_eq (by omega) (by omega)] at h140 | rw [zi_eqN (by omega)] at h140 | rw [zi_Neq (by omega)] at h140 | rw [zi_eq] at h140
            refine go_iload (pc := 148) dX12_sheet_148 rfl ?_
            refine go_ireturn (pc := 150) dX12_sheet_150 rfl ?_
            refine ⟨?_, ⟨(hC.1).fr hF (by decide) (by decide), (hC.2.1).fr hF (by decide) (by decide), (hC.2.2.1).fr hF (by decide) (by decide) (by decide), (hC.2.2.2.1).fr hF (by decide) (by decide), (hC.2.2.2.2.1).fr hF (by decide) (by decide) (by decide), ⟨h3, shR_ok _ _ _ _ hok _ hn.2, hR⟩, (hC.2.2.2.2.2.2.1).fr hF (by decide) (by decide), (hC.2.2.2.2.2.2.2.1).fr hF (by decide) (by decide), (hC.2.2.2.2.2.2.2.2.1).fr hF (by decide) (by decide) (by decide), (hC.2.2.2.2.2.2.2.2.2).fr hF (by decide) (by decide)⟩, hF.1⟩
            rw [shS]
            first | rw [if_pos (by omega)] | rw [if_neg (by omega)]
          · first | rw [nI_eq (by omega) (by omega)] at h140 | rw [zi_eqN (by omega)] at h140 | rw [zi_Neq (by omega)] at h140 | rw [zi_eq] at h140
            refine go_bipush (-3) (pc := 143) dX12_sheet_143 (by decide) ?_
            refine go_goto 150 (pc := 145) dX12_sheet_145 (by decide) ?_
            refine go_ireturn (pc := 150) dX12_sheet_150 rfl ?_
            refine ⟨?_, ⟨(hC.1).fr hF (by decide) (by decide), (hC.2.1).fr hF (by decide) (by decide), (hC.2.2.1).fr hF (by decide) (by decide) (by decide), (hC.2.2.2.1).fr hF (by decide) (by decide), (hC.2.2.2.2.1).fr hF (by decide) (by decide) (by decide), ⟨h3, shR_ok _ _ _ _ hok _ hn.2, hR⟩, (hC.2.2.2.2.2.2.1).fr hF (by decide) (by decide), (hC.2.2.2.2.2.2.2.1).fr hF (by decide) (by decide), (hC.2.2.2.2.2.2.2.2.1).fr hF (by decide) (by decide) (by decide), (hC.2.2.2.2.2.2.2.2.2).fr hF (by decide) (by decide)⟩, hF.1⟩
            rw [shS]
            first | rw [if_pos (by omega)] | rw [if_neg (by omega)]
        · first | rw [nI_leI (by omega) (by omega)] at h52 | rw [zi_leN (by omega)] at h52 | rw [zi_Nle (by omega)] at h52 | rw [zi_le] at h52
          refine go_iload_n (i := 1) (pc := 55) dX12_sheet_55 rfl rfl ?_
          refine go_if_ne 65 (pc := 56) dX12_sheet_56 (by decide) (fun h56 => ?_) (fun h56 => ?_)
          · first | rw [zb_0d] at h56 | rw [zn_eq0 (by omega)] at h56 | rw [zi_eq0] at h56
            refine go_iload_n (i := 1) (pc := 65) dX12_sheet_65 rfl rfl ?_
            refine go_iconst (nI 1) (pc := 66) dX12_sheet_66 (by decide) ?_
            refine go_icmp_ne 76 (pc := 67) dX12_sheet_67 (by decide) (fun h67 => ?_) (fun h67 => ?_)
            · first | rw [nI_eq (by omega) (by omega)] at h67 | rw [zi_eqN (by omega)] at h67 | rw [zi_Neq (by omega)] at h67 | rw [zi_eq] at h67
              have h67 : ¬ k.toInt = 1 := by omega
              refine go_iload (pc := 76) dX12_sheet_76 rfl ?_
              refine go_top (congrArg Value.int (show _ = ent k (f + nI i * s) by unfold ent; first | rw [if_pos h56] | rw [if_neg h56, if_pos h67] | rw [if_neg h56, if_neg h67])) ?_
              refine go_istore (pc := 78) dX12_sheet_78 (by decide) ?_
              refine go_aload_n (i := 0) (pc := 80) dX12_sheet_80 rfl rfl ?_
              refine go_getr2 fl_X12_36 (pc := 81) dX12_sheet_81 (by rfl) (by rfl) (by rfl) ?_
              refine go_iload (pc := 84) dX12_sheet_84 rfl ?_
              refine go_iload_n (i := 1) (pc := 86) dX12_sheet_86 rfl rfl ?_
              refine go_iconst (nI 3) (pc := 87) dX12_sheet_87 (by decide) ?_
              refine go_icmp_eq 97 (pc := 88) dX12_sheet_88 (by decide) (fun h88 => ?_) (fun h88 => ?_)
              · first | rw [nI_eq (by omega) (by omega)] at h88 | rw [zi_eqN (by omega)] at h88 | rw [zi_Neq (by omega)] at h88 | rw [zi_eq] at h88
                refine go_iconst (nI 0) (pc := 97) dX12_sheet_97 (by decide) ?_
                refine go_goto 112 (pc := 98) dX12_sheet_98 (by decide) ?_
                refine go_top (congrArg Value.int (show _ = nI (shE k n f s i) by unfold shE; first | rw [if_pos (by omega)] | rw [if_neg (by omega)])) ?_
                refine go_iastore i (pc := 112) dX12_sheet_112 rfl rfl rfl (by omega) ?_
                refine go_iload (pc := 113) dX12_sheet_113 rfl ?_
                refine go_aload_n (i := 0) (pc := 115) dX12_sheet_115 rfl rfl ?_
                refine go_getr2 fl_X12_36 (pc := 116) dX12_sheet_116 (by rfl) (by rfl) (by rfl) ?_
                refine go_iload (pc := 119) dX12_sheet_119 rfl ?_
                refine go_iaload _ (pc := 121) dX12_sheet_121 (by first | rfl | (apply zM_ar <;> assumption)) (by first | rfl | (apply zM_jn <;> assumption)) rfl (by first | assumption | omega) ?_
                rw [hR.up (i := i) (v := shE k n f s i) i (by omega), va_at', if_pos rfl]
                first | with_reducible refine go_iaddN (pc := 122) dX12_sheet_122 ?_ | refine go_iadd (pc := 122) dX12_sheet_122 ?_
                refine go_istore (pc := 123) dX12_sheet_123 (by decide) ?_
                refine go_iload (pc := 125) dX12_sheet_125 rfl ?_
                refine go_iload (pc := 127) dX12_sheet_127 rfl ?_
                refine go_iadd (pc := 129) dX12_sheet_129 ?_
                rw [sh_v]
                refine go_istore (pc := 130) dX12_sheet_130 (by decide) ?_
                refine go_iincN (pc := 132) dX12_sheet_132 rfl (by decide) ?_
                refine go_goto 46 (pc := 135) dX12_sheet_135 (by decide) ?_
                refine go_drop [0, 1, 2, 3, 4, 5, 6, 7] rfl ?_
                exact ih (ld.1 - (i + 1)) (by omega) (i + 1) rfl _ (by omega) (by rw [← shR_up]; exact hR.up) (hF.uA (by simp))
              · first | rw [nI_eq (by omega) (by omega)] at h88 | rw [zi_eqN (by omega)] at h88 | rw [zi_Neq (by omega)] at h88 | rw [zi_eq] at h88
                refine go_iload (pc := 91) dX12_sheet_91 rfl ?_
                refine go_iload_n (i := 2) (pc := 93) dX12_sheet_93 rfl rfl ?_
                refine go_icmp_lt 101 (pc := 94) dX12_sheet_94 (by decide) (fun h94 => ?_) (fun h94 => ?_)
                · first | rw [nI_ltI (by omega) (by omega)] at h94 | rw [zi_ltN (by omega)] at h94 | rw [zi_Nlt (by omega)] at h94 | rw [zi_lt] at h94
                  refine go_iconst (nI 0) (pc := 101) dX12_sheet_101 (by decide) ?_
                  refine go_bipush (nI 9) (pc := 102) dX12_sheet_102 (by decide) ?_
                  refine go_iload (pc := 104) dX12_sheet_104 rfl ?_
                  refine go_callS ml_X12_127 mt_J9_min_7cf53 (pc := 106) dX12_sheet_106 (c_J9_min_7cf53) (by decide) (by decide) rfl rfl (Nat.le_of_ble_eq_true rfl) (fun r σ' hp => ?_)
                  obtain ⟨rfl, hσ⟩ := hp
                  rw [hσ]
                  clear hσ
                  dsimp only [zRet]
                  refine go_callS ml_X12_244 mt_J9_max_7cf53 (pc := 109) dX12_sheet_109 (c_J9_max_7cf53) (by decide) (by decide) rfl rfl (Nat.le_of_ble_eq_true rfl) (fun r σ' hp => ?_)
                  obtain ⟨rfl, hσ⟩ := hp
                  rw [hσ]
                  clear hσ
                  dsimp only [zRet]
                  rw [clp_m9]
                  refine go_top (congrArg Value.int (show _ = nI (shE k n f s i) by unfold shE; first | rw [if_pos (by omega)] | rw [if_neg (by omega)])) ?_
                  refine go_iastore i (pc := 112) dX12_sheet_112 rfl rfl rfl (by omega) ?_
                  refine go_iload (pc := 113) dX12_sheet_113 rfl ?_
                  refine go_aload_n (i := 0) (pc := 115) dX12_sheet_115 rfl rfl ?_
                  refine go_getr2 fl_X12_36 (pc := 116) dX12_sheet_116 (by rfl) (by rfl) (by rfl) ?_
                  refine go_iload (pc := 119) dX12_sheet_119 rfl ?_
                  refine go_iaload _ (pc := 121) dX12_sheet_121 (by first | rfl | (apply zM_ar <;> assumption)) (by first | rfl | (apply zM_jn <;> assumption)) rfl (by first | assumption | omega) ?_
                  rw [hR.up (i := i) (v := shE k n f s i) i (by omega), va_at', if_pos rfl]
                  first | with_reducible refine go_iaddN (pc := 122) dX12_sheet_122 ?_ | refine go_iadd (pc := 122) dX12_sheet_122 ?_
                  refine go_istore (pc := 123) dX12_sheet_123 (by decide) ?_
                  refine go_iload (pc := 125) dX12_sheet_125 rfl ?_
                  refine go_iload (pc := 127) dX12_sheet_127 rfl ?_
                  refine go_iadd (pc := 129) dX12_sheet_129 ?_
                  rw [sh_v]
                  refine go_istore (pc := 130) dX12_sheet_130 (by decide) ?_
                  refine go_iincN (pc := 132) dX12_sheet_132 rfl (by decide) ?_
                  refine go_goto 46 (pc := 135) dX12_sheet_135 (by decide) ?_
                  refine go_drop [0, 1, 2, 3, 4, 5, 6, 7] rfl ?_
                  exact ih (ld.1 - (i + 1)) (by omega) (i + 1) rfl _ (by omega) (by rw [← shR_up]; exact hR.up) (hF.uA (by simp))
                · first | rw [nI_ltI (by omega) (by omega)] at h94 | rw [zi_ltN (by omega)] at h94 | rw [zi_Nlt (by omega)] at h94 | rw [zi_lt] at h94
                  refine go_iconst (nI 0) (pc := 97) dX12_sheet_97 (by decide) ?_
                  refine go_goto 112 (pc := 98) dX12_sheet_98 (by decide) ?_
                  refine go_top (congrArg Value.int (show _ = nI (shE k n f s i) by unfold shE; first | rw [if_pos (by omega)] | rw [if_neg (by omega)])) ?_
                  refine go_iastore i (pc := 112) dX12_sheet_112 rfl rfl rfl (by omega) ?_
                  refine go_iload (pc := 113) dX12_sheet_113 rfl ?_
                  refine go_aload_n (i := 0) (pc := 115) dX12_sheet_115 rfl rfl ?_
                  refine go_getr2 fl_X12_36 (pc := 116) dX12_sheet_116 (by rfl) (by rfl) (by rfl) ?_
                  refine go_iload (pc := 119) dX12_sheet_119 rfl ?_
                  refine go_iaload _ (pc := 121) dX12_sheet_121 (by first | rfl | (apply zM_ar <;> assumption)) (by first | rfl | (apply zM_jn <;> assumption)) rfl (by first | assumption | omega) ?_
                  rw [hR.up (i := i) (v := shE k n f s i) i (by omega), va_at', if_pos rfl]
                  first | with_reducible refine go_iaddN (pc := 122) dX12_sheet_122 ?_ | refine go_iadd (pc := 122) dX12_sheet_122 ?_
                  refine go_istore (pc := 123) dX12_sheet_123 (by decide) ?_
                  refine go_iload (pc := 125) dX12_sheet_125 rfl ?_
                  refine go_iload (pc := 127) dX12_sheet_127 rfl ?_
                  refine go_iadd (pc := 129) dX12_sheet_129 ?_
                  rw [sh_v]
                  refine go_istore (pc := 130) dX12_sheet_130 (by decide) ?_
                  refine go_iincN (pc := 132) dX12_sheet_132 rfl (by decide) ?_
                  refine go_goto 46 (pc := 135) dX12_sheet_135 (by decide) ?_
                  refine go_drop [0, 1, 2, 3, 4, 5, 6, 7] rfl ?_
                  exact ih (ld.1 - (i + 1)) (by omega) (i + 1) rfl _ (by omega) (by rw [← shR_up]; exact hR.up) (hF.uA (by simp))
            · first | rw [nI_eq (by omega) (by omega)] at h67 | rw [zi_eqN (by omega)] at h67 | rw [zi_Neq (by omega)] at h67 | rw [zi_eq] at h67
              have h67 : k.toInt = 1 := by omega
              refine go_iload (pc := 70) dX12_sheet_70 rfl ?_
              refine go_i2s (pc := 72) dX12_sheet_72 ?_
              refine go_goto 78 (pc := 73) dX12_sheet_73 (by decide) ?_
              refine go_top (congrArg Value.int (show _ = ent k (f + nI i * s) by unfold ent; first | rw [if_pos h56] | rw [if_neg h56, if_pos h67] | rw [if_neg h56, if_neg h67])) ?_
              refine go_istore (pc := 78) dX12_sheet_78 (by decide) ?_
              refine go_aload_n (i := 0) (pc := 80) dX12_sheet_80 rfl rfl ?_
              refine go_getr2 fl_X12_36 (pc := 81) dX12_sheet_81 (by rfl) (by rfl) (by rfl) ?_
              refine go_iload (pc := 84) dX12_sheet_84 rfl ?_
              refine go_iload_n (i := 1) (pc := 86) dX12_sheet_86 rfl rfl ?_
              refine go_iconst (nI 3) (pc := 87) dX12_sheet_87 (by decide) ?_
              refine go_icmp_eq 97 (pc := 88) dX12_sheet_88 (by decide) (fun h88 => ?_) (fun h88 => ?_)
              · first | rw [nI_eq (by omega) (by omega)] at h88 | rw [zi_eqN (by omega)] at h88 | rw [zi_Neq (by omega)] at h88 | rw [zi_eq] at h88
                refine go_iconst (nI 0) (pc := 97) dX12_sheet_97 (by decide) ?_
                refine go_goto 112 (pc := 98) dX12_sheet_98 (by decide) ?_
                refine go_top (congrArg Value.int (show _ = nI (shE k n f s i) by unfold shE; first | rw [if_pos (by omega)] | rw [if_neg (by omega)])) ?_
                refine go_iastore i (pc := 112) dX12_sheet_112 rfl rfl rfl (by omega) ?_
                refine go_iload (pc := 113) dX12_sheet_113 rfl ?_
                refine go_aload_n (i := 0) (pc := 115) dX12_sheet_115 rfl rfl ?_
                refine go_getr2 fl_X12_36 (pc := 116) dX12_sheet_116 (by rfl) (by rfl) (by rfl) ?_
                refine go_iload (pc := 119) dX12_sheet_119 rfl ?_
                refine go_iaload _ (pc := 121) dX12_sheet_121 (by first | rfl | (apply zM_ar <;> assumption)) (by first | rfl | (apply zM_jn <;> assumption)) rfl (by first | assumption | omega) ?_
                rw [hR.up (i := i) (v := shE k n f s i) i (by omega), va_at', if_pos rfl]
                first | with_reducible refine go_iaddN (pc := 122) dX12_sheet_122 ?_ | refine go_iadd (pc := 122) dX12_sheet_122 ?_
                refine go_istore (pc := 123) dX12_sheet_123 (by decide) ?_
                refine go_iload (pc := 125) dX12_sheet_125 rfl ?_
                refine go_iload (pc := 127) dX12_sheet_127 rfl ?_
                refine go_iadd (pc := 129) dX12_sheet_129 ?_
                rw [sh_v]
                refine go_istore (pc := 130) dX12_sheet_130 (by decide) ?_
                refine go_iincN (pc := 132) dX12_sheet_132 rfl (by decide) ?_
                refine go_goto 46 (pc := 135) dX12_sheet_135 (by decide) ?_
                refine go_drop [0, 1, 2, 3, 4, 5, 6, 7] rfl ?_
                exact ih (ld.1 - (i + 1)) (by omega) (i + 1) rfl _ (by omega) (by rw [← shR_up]; exact hR.up) (hF.uA (by simp))
              · first | rw [nI_eq (by omega) (by omega)] at h88 | rw [zi_eqN (by omega)] at h88 | rw [zi_Neq (by omega)] at h88 | rw [zi_eq] at h88
                refine go_iload (pc := 91) dX12_sheet_91 rfl ?_
                refine go_iload_n (i := 2) (pc := 93) dX12_sheet_93 rfl rfl ?_
                refine go_icmp_lt 101 (pc := 94) dX12_sheet_94 (by decide) (fun h94 => ?_) (fun h94 => ?_)
                · first | rw [nI_ltI (by omega) (by omega)] at h94 | rw [zi_ltN (by omega)] at h94 | rw [zi_Nlt (by omega)] at h94 | rw [zi_lt] at h94
                  refine go_iconst (nI 0) (pc := 101) dX12_sheet_101 (by decide) ?_
                  refine go_bipush (nI 9) (pc := 102) dX12_sheet_102 (by decide) ?_
                  refine go_iload (pc := 104) dX12_sheet_104 rfl ?_
                  refine go_callS ml_X12_127 mt_J9_min_7cf53 (pc := 106) dX12_sheet_106 (c_J9_min_7cf53) (by decide) (by decide) rfl rfl (Nat.le_of_ble_eq_true rfl) (fun r σ' hp => ?_)
                  obtain ⟨rfl, hσ⟩ := hp
                  rw [hσ]
                  clear hσ
                  dsimp only [zRet]
                  refine go_callS ml_X12_244 mt_J9_max_7cf53 (pc := 109) dX12_sheet_109 (c_J9_max_7cf53) (by decide) (by decide) rfl rfl (Nat.le_of_ble_eq_true rfl) (fun r σ' hp => ?_)
                  obtain ⟨rfl, hσ⟩ := hp
                  rw [hσ]
                  clear hσ
                  dsimp only [zRet]
                  rw [clp_m9]
                  refine go_top (congrArg Value.int (show _ = nI (shE k n f s i) by unfold shE; first | rw [if_pos (by omega)] | rw [if_neg (by omega)])) ?_
                  refine go_iastore i (pc := 112) dX12_sheet_112 rfl rfl rfl (by omega) ?_
                  refine go_iload (pc := 113) dX12_sheet_113 rfl ?_
                  refine go_aload_n (i := 0) (pc := 115) dX12_sheet_115 rfl rfl ?_
                  refine go_getr2 fl_X12_36 (pc := 116) dX12_sheet_116 (by rfl) (by rfl) (by rfl) ?_
                  refine go_iload (pc := 119) dX12_sheet_119 rfl ?_
                  refine go_iaload _ (pc := 121) dX12_sheet_121 (by first | rfl | (apply zM_ar <;> assumption)) (by first | rfl | (apply zM_jn <;> assumption)) rfl (by first | assumption | omega) ?_
                  rw [hR.up (i := i) (v := shE k n f s i) i (by omega), va_at', if_pos rfl]
                  first | with_reducible refine go_iaddN (pc := 122) dX12_sheet_122 ?_ | refine go_iadd (pc := 122) dX12_sheet_122 ?_
                  refine go_istore (pc := 123) dX12_sheet_123 (by decide) ?_
                  refine go_iload (pc := 125) dX12_sheet_125 rfl ?_
                  refine go_iload (pc := 127) dX12_sheet_127 rfl ?_
                  refine go_iadd (pc := 129) dX12_sheet_129 ?_
                  rw [sh_v]
                  refine go_istore (pc := 130) dX12_sheet_130 (by decide) ?_
                  refine go_iincN (pc := 132) dX12_sheet_132 rfl (by decide) ?_
                  refine go_goto 46 (pc := 135) dX12_sheet_135 (by decide) ?_
                  refine go_drop [0, 1, 2, 3, 4, 5, 6, 7] rfl ?_
                  exact ih (ld.1 - (i + 1)) (by omega) (i + 1) rfl _ (by omega) (by rw [← shR_up]; exact hR.up) (hF.uA (by simp))
                · first | rw [nI_ltI (by omega) (by omega)] at h94 | rw [zi_ltN (by omega)] at h94 | rw [zi_Nlt (by omega)] at h94 | rw [zi_lt] at h94
                  refine go_iconst (nI 0) (pc := 97) dX12_sheet_97 (by decide) ?_
                  refine go_goto 112 (pc := 98) dX12_sheet_98 (by decide) ?_
                  refine go_top (congrArg Value.int (show _ = nI (shE k n f s i) by unfold shE; first | rw [if_pos (by omega)] | rw [if_neg (by omega)])) ?_
                  refine go_iastore i (pc := 112) dX12_sheet_112 rfl rfl rfl (by omega) ?_
                  refine go_iload (pc := 113) dX12_sheet_113 rfl ?_
                  refine go_aload_n (i := 0) (pc := 115) dX12_sheet_115 rfl rfl ?_
                  refine go_getr2 fl_X12_36 (pc := 116) dX12_sheet_116 (by rfl) (by rfl) (by rfl) ?_
                  refine go_iload (pc := 119) dX12_sheet_119 rfl ?_
                  refine go_iaload _ (pc := 121) dX12_sheet_121 (by first | rfl | (apply zM_ar <;> assumption)) (by first | rfl | (apply zM_jn <;> assumption)) rfl (by first | assumption | omega) ?_
                  rw [hR.up (i := i) (v := shE k n f s i) i (by omega), va_at', if_pos rfl]
                  first | with_reducible refine go_iaddN (pc := 122) dX12_sheet_122 ?_ | refine go_iadd (pc := 122) dX12_sheet_122 ?_
                  refine go_istore (pc := 123) dX12_sheet_123 (by decide) ?_
                  refine go_iload (pc := 125) dX12_sheet_125 rfl ?_
                  refine go_iload (pc := 127) dX12_sheet_127 rfl ?_
                  refine go_iadd (pc := 129) dX12_sheet_129 ?_
                  rw [sh_v]
                  refine go_istore (pc := 130) dX12_sheet_130 (by decide) ?_
                  refine go_iincN (pc := 132) dX12_sheet_132 rfl (by decide) ?_
                  refine go_goto 46 (pc := 135) dX12_sheet_135 (by decide) ?_
                  refine go_drop [0, 1, 2, 3, 4, 5, 6, 7] rfl ?_
                  exact ih (ld.1 - (i + 1)) (by omega) (i + 1) rfl _ (by omega) (by rw [← shR_up]; exact hR.up) (hF.uA (by simp))
          · first | rw [zb_0d] at h56 | rw [zn_eq0 (by omega)] at h56 | rw [zi_eq0] at h56
            refine go_iload (pc := 59) dX12_sheet_59 rfl ?_
            refine go_i2b (pc := 61) dX12_sheet_61 ?_
            refine go_goto 78 (pc := 62) dX12_sheet_62 (by decide) ?_
            refine go_top (congrArg Value.int (show _ = ent k (f + nI i * s) by unfold ent; first | rw [if_pos h56] | rw [if_neg h56, if_pos h67] | rw [if_neg h56, if_neg h67])) ?_
            refine go_istore (pc := 78) dX12_sheet_78 (by decide) ?_
            refine go_aload_n (i := 0) (pc := 80) dX12_sheet_80 rfl rfl ?_
            refine go_getr2 fl_X12_36 (pc := 81) dX12_sheet_81 (by rfl) (by rfl) (by rfl) ?_
            refine go_iload (pc := 84) dX12_sheet_84 rfl ?_
            refine go_iload_n (i := 1) (pc := 86) dX12_sheet_86 rfl rfl ?_
            refine go_iconst (nI 3) (pc := 87) dX12_sheet_87 (by decide) ?_
            refine go_icmp_eq 97 (pc := 88) dX12_sheet_88 (by decide) (fun h88 => ?_) (fun h88 => ?_)
            · first | rw [nI_eq (by omega) (by omega)] at h88 | rw [zi_eqN (by omega)] at h88 | rw [zi_Neq (by omega)] at h88 | rw [zi_eq] at h88
              refine go_iconst (nI 0) (pc := 97) dX12_sheet_97 (by decide) ?_
              refine go_goto 112 (pc := 98) dX12_sheet_98 (by decide) ?_
              refine go_top (congrArg Value.int (show _ = nI (shE k n f s i) by unfold shE; first | rw [if_pos (by omega)] | rw [if_neg (by omega)])) ?_
              refine go_iastore i (pc := 112) dX12_sheet_112 rfl rfl rfl (by omega) ?_
              refine go_iload (pc := 113) dX12_sheet_113 rfl ?_
              refine go_aload_n (i := 0) (pc := 115) dX12_sheet_115 rfl rfl ?_
              refine go_getr2 fl_X12_36 (pc := 116) dX12_sheet_116 (by rfl) (by rfl) (by rfl) ?_
              refine go_iload (pc := 119) dX12_sheet_119 rfl ?_
              refine go_iaload _ (pc := 121) dX12_sheet_121 (by first | rfl | (apply zM_ar <;> assumption)) (by first | rfl | (apply zM_jn <;> assumption)) rfl (by first | assumption | omega) ?_
              rw [hR.up (i := i) (v := shE k n f s i) i (by omega), va_at', if_pos rfl]
              first | with_reducible refine go_iaddN (pc := 122) dX12_sheet_122 ?_ | refine go_iadd (pc := 122) dX12_sheet_122 ?_
              refine go_istore (pc := 123) dX12_sheet_123 (by decide) ?_
              refine go_iload (pc := 125) dX12_sheet_125 rfl ?_
              refine go_iload (pc := 127) dX12_sheet_127 rfl ?_
              refine go_iadd (pc := 129) dX12_sheet_129 ?_
              rw [sh_v]
              refine go_istore (pc := 130) dX12_sheet_130 (by decide) ?_
              refine go_iincN (pc := 132) dX12_sheet_132 rfl (by decide) ?_
              refine go_goto 46 (pc := 135) dX12_sheet_135 (by decide) ?_
              refine go_drop [0, 1, 2, 3, 4, 5, 6, 7] rfl ?_
              exact ih (ld.1 - (i + 1)) (by omega) (i + 1) rfl _ (by omega) (by rw [← shR_up]; exact hR.up) (hF.uA (by simp))
            · first | rw [nI_eq (by omega) (by omega)] at h88 | rw [zi_eqN (by omega)] at h88 | rw [zi_Neq (by omega)] at h88 | rw [zi_eq] at h88
              refine go_iload (pc := 91) dX12_sheet_91 rfl ?_
              refine go_iload_n (i := 2) (pc := 93) dX12_sheet_93 rfl rfl ?_
              refine go_icmp_lt 101 (pc := 94) dX12_sheet_94 (by decide) (fun h94 => ?_) (fun h94 => ?_)
              · first | rw [nI_ltI (by omega) (by omega)] at h94 | rw [zi_ltN (by omega)] at h94 | rw [zi_Nlt (by omega)] at h94 | rw [zi_lt] at h94
                refine go_iconst (nI 0) (pc := 101) dX12_sheet_101 (by decide) ?_
                refine go_bipush (nI 9) (pc := 102) dX12_sheet_102 (by decide) ?_
                refine go_iload (pc := 104) dX12_sheet_104 rfl ?_
                refine go_callS ml_X12_127 mt_J9_min_7cf53 (pc := 106) dX12_sheet_106 (c_J9_min_7cf53) (by decide) (by decide) rfl rfl (Nat.le_of_ble_eq_true rfl) (fun r σ' hp => ?_)
                obtain ⟨rfl, hσ⟩ := hp
                rw [hσ]
                clear hσ
                dsimp only [zRet]
                refine go_callS ml_X12_244 mt_J9_max_7cf53 (pc := 109) dX12_sheet_109 (c_J9_max_7cf53) (by decide) (by decide) rfl rfl (Nat.le_of_ble_eq_true rfl) (fun r σ' hp => ?_)
                obtain ⟨rfl, hσ⟩ := hp
                rw [hσ]
                clear hσ
                dsimp only [zRet]
                rw [clp_m9]
                refine go_top (congrArg Value.int (show _ = nI (shE k n f s i) by unfold shE; first | rw [if_pos (by omega)] | rw [if_neg (by omega)])) ?_
                refine go_iastore i (pc := 112) dX12_sheet_112 rfl rfl rfl (by omega) ?_
                refine go_iload (pc := 113) dX12_sheet_113 rfl ?_
                refine go_aload_n (i := 0) (pc := 115) dX12_sheet_115 rfl rfl ?_
                refine go_getr2 fl_X12_36 (pc := 116) dX12_sheet_116 (by rfl) (by rfl) (by rfl) ?_
                refine go_iload (pc := 119) dX12_sheet_119 rfl ?_
                refine go_iaload _ (pc := 121) dX12_sheet_121 (by first | rfl | (apply zM_ar <;> assumption)) (by first | rfl | (apply zM_jn <;> assumption)) rfl (by first | assumption | omega) ?_
                rw [hR.up (i := i) (v := shE k n f s i) i (by omega), va_at', if_pos rfl]
                first | with_reducible refine go_iaddN (pc := 122) dX12_sheet_122 ?_ | refine go_iadd (pc := 122) dX12_sheet_122 ?_
                refine go_istore (pc := 123) dX12_sheet_123 (by decide) ?_
                refine go_iload (pc := 125) dX12_sheet_125 rfl ?_
                refine go_iload (pc := 127) dX12_sheet_127 rfl ?_
                refine go_iadd (pc := 129) dX12_sheet_129 ?_
                rw [sh_v]
                refine go_istore (pc := 130) dX12_sheet_130 (by decide) ?_
                refine go_iincN (pc := 132) dX12_sheet_132 rfl (by decide) ?_
                refine go_goto 46 (pc := 135) dX12_sheet_135 (by decide) ?_
                refine go_drop [0, 1, 2, 3, 4, 5, 6, 7] rfl ?_
                exact ih (ld.1 - (i + 1)) (by omega) (i + 1) rfl _ (by omega) (by rw [← shR_up]; exact hR.up) (hF.uA (by simp))
              · first | rw [nI_ltI (by omega) (by omega)] at h94 | rw [zi_ltN (by omega)] at h94 | rw [zi_Nlt (by omega)] at h94 | rw [zi_lt] at h94
                refine go_iconst (nI 0) (pc := 97) dX12_sheet_97 (by decide) ?_
                refine go_goto 112 (pc := 98) dX12_sheet_98 (by decide) ?_
                refine go_top (congrArg Value.int (show _ = nI (shE k n f s i) by unfold shE; first | rw [if_pos (by omega)] | rw [if_neg (by omega)])) ?_
                refine go_iastore i (pc := 112) dX12_sheet_112 rfl rfl rfl (by omega) ?_
                refine go_iload (pc := 113) dX12_sheet_113 rfl ?_
                refine go_aload_n (i := 0) (pc := 115) dX12_sheet_115 rfl rfl ?_
                refine go_getr2 fl_X12_36 (pc := 116) dX12_sheet_116 (by rfl) (by rfl) (by rfl) ?_
                refine go_iload (pc := 119) dX12_sheet_119 rfl ?_
                refine go_iaload _ (pc := 121) dX12_sheet_121 (by first | rfl | (apply zM_ar <;> assumption)) (by first | rfl | (apply zM_jn <;> assumption)) rfl (by first | assumption | omega) ?_
                rw [hR.up (i := i) (v := shE k n f s i) i (by omega), va_at', if_pos rfl]
                first | with_reducible refine go_iaddN (pc := 122) dX12_sheet_122 ?_ | refine go_iadd (pc := 122) dX12_sheet_122 ?_
                refine go_istore (pc := 123) dX12_sheet_123 (by decide) ?_
                refine go_iload (pc := 125) dX12_sheet_125 rfl ?_
                refine go_iload (pc := 127) dX12_sheet_127 rfl ?_
                refine go_iadd (pc := 129) dX12_sheet_129 ?_
                rw [sh_v]
                refine go_istore (pc := 130) dX12_sheet_130 (by decide) ?_
                refine go_iincN (pc := 132) dX12_sheet_132 rfl (by decide) ?_
                refine go_goto 46 (pc := 135) dX12_sheet_135 (by decide) ?_
                refine go_drop [0, 1, 2, 3, 4, 5, 6, 7] rfl ?_
                exact ih (ld.1 - (i + 1)) (by omega) (i + 1) rfl _ (by omega) (by rw [← shR_up]; exact hR.up) (hF.uA (by simp))
    intro τ hR0 hF
    refine go_iconst (nI 0) (pc := 37) dX12_sheet_37 (by decide) ?_
    refine go_istore (pc := 38) dX12_sheet_38 (by decide) ?_
    refine go_iload_n (i := 3) (pc := 40) dX12_sheet_40 rfl rfl ?_
    refine go_istore (pc := 41) dX12_sheet_41 (by decide) ?_
    refine go_iconst (nI 0) (pc := 43) dX12_sheet_43 (by decide) ?_
    refine go_istore (pc := 44) dX12_sheet_44 (by decide) ?_
    refine go_at rfl (show _ = [(0, .ref (zA E 33 0)), (1, .int k), (2, .int n), (3, .int f), (4, .int s), (5, .int (nI (sumN 0 (shE k n f s)))), (6, .int (f + nI 0 * s)), (7, .int (nI 0))] by rw [show f + nI 0 * s = f by rw [show nI 0 = 0 by decide, Int32.zero_mul, Int32.add_zero]]; rfl) rfl ?_
    exact loop 0 τ (by omega) hR0 hF
  refine go_aload_n (i := 0) (pc := 0) dX12_sheet_0 rfl rfl ?_
  refine go_iconst (nI 0) (pc := 1) dX12_sheet_1 (by decide) ?_
  refine go_puti fp_X12_97 (pc := 2) dX12_sheet_2 (by rfl) rfl rfl ?_
  have hF : Fr9 [0] [7] σ (uS σ 33 0 (nI 0)) := Fr9.rf.uS (by simp)
  refine go_iload_n (i := 1) (pc := 5) dX12_sheet_5 rfl rfl ?_
  refine go_i2l (pc := 6) dX12_sheet_6 ?_
  refine go_lconst (lN 0) (pc := 7) dX12_sheet_7 (by decide) ?_
  refine go_ldc2 (3) kc_X12_287 (pc := 8) dX12_sheet_8 ?_
  refine go_callS ml_X12_107 mt_X12_in (pc := 11) dX12_sheet_11 (c_in (lo := 0) (hi := 3) (by decide) (by decide)) (by decide) (by decide) rfl rfl (Nat.le_of_ble_eq_true rfl) (fun r σ' hp => ?_)
  obtain ⟨rfl, hσ⟩ := hp
  rw [hσ]
  clear hσ σ'
  dsimp only [zRet]
  refine go_if_eq 23 (pc := 14) dX12_sheet_14 (by decide) (fun h14 => ?_) (fun h14 => ?_)
  · first | rw [zb_0d] at h14 | rw [zn_eq0 (by omega)] at h14 | rw [zi_eq0] at h14
    refine go_iconst (-1) (pc := 23) dX12_sheet_23 (by decide) ?_
    refine go_ireturn (pc := 24) dX12_sheet_24 rfl ?_
    rw [show shA ld.1 ld.2 k n f s = _ from if_pos (by omega)]
    exact ⟨rfl, hC.t0.1, hF.1⟩
  · first | rw [zb_0d] at h14 | rw [zn_eq0 (by omega)] at h14 | rw [zi_eq0] at h14
    refine go_iload_n (i := 2) (pc := 17) dX12_sheet_17 rfl rfl ?_
    refine go_bipush (nI 12) (pc := 18) dX12_sheet_18 (by decide) ?_
    refine go_icmp_le 25 (pc := 20) dX12_sheet_20 (by decide) (fun h20 => ?_) (fun h20 => ?_)
    · first | rw [nI_leI (by omega) (by omega)] at h20 | rw [zi_leN (by omega)] at h20 | rw [zi_Nle (by omega)] at h20 | rw [zi_le] at h20
      refine go_iload_n (i := 1) (pc := 25) dX12_sheet_25 rfl rfl ?_
      refine go_iconst (nI 3) (pc := 26) dX12_sheet_26 (by decide) ?_
      refine go_icmp_eq 37 (pc := 27) dX12_sheet_27 (by decide) (fun h27 => ?_) (fun h27 => ?_)
      · first | rw [nI_eq (by omega) (by omega)] at h27 | rw [zi_eqN (by omega)] at h27 | rw [zi_Neq (by omega)] at h27 | rw [zi_eq] at h27
        rw [show shA ld.1 ld.2 k n f s = _ from (if_neg (by omega)).trans (if_neg (by omega))]
        exact main _ (by rw [shR_0]; exact hN.2.2) hF
      · first | rw [nI_eq (by omega) (by omega)] at h27 | rw [zi_eqN (by omega)] at h27 | rw [zi_Neq (by omega)] at h27 | rw [zi_eq] at h27
        refine go_iload_n (i := 2) (pc := 30) dX12_sheet_30 rfl rfl ?_
        refine go_if_ge 37 (pc := 31) dX12_sheet_31 (by decide) (fun h31 => ?_) (fun h31 => ?_)
        · first | rw [zb_0d] at h31 | rw [zn_ge0 (by omega)] at h31 | rw [zi_ge0] at h31
          rw [show shA ld.1 ld.2 k n f s = _ from (if_neg (by omega)).trans (if_neg (by omega))]
          exact main _ (by rw [shR_0]; exact hN.2.2) hF
        · first | rw [zb_0d] at h31 | rw [zn_ge0 (by omega)] at h31 | rw [zi_ge0] at h31
          refine go_bipush (-2) (pc := 34) dX12_sheet_34 (by decide) ?_
          refine go_ireturn (pc := 36) dX12_sheet_36 rfl ?_
          rw [show shA ld.1 ld.2 k n f s = _ from (if_neg (by omega)).trans (if_pos (by omega))]
          exact ⟨rfl, hC.t0.1, hF.1⟩
    · first | rw [nI_leI (by omega) (by omega)] at h20 | rw [zi_leN (by omega)] at h20 | rw [zi_Nle (by omega)] at h20 | rw [zi_le] at h20
      refine go_iconst (-1) (pc := 23) dX12_sheet_23 (by decide) ?_
      refine go_ireturn (pc := 24) dX12_sheet_24 rfl ?_
      rw [show shA ld.1 ld.2 k n f s = _ from if_pos (by omega)]
      exact ⟨rfl, hC.t0.1, hF.1⟩

theorem c_X12_keep {E : zE} {σ : zT} {tx : Nat × (Nat → Nat)} {bd : Nat × (Nat → Nat) × (Nat → Nat)} {sk : Nat × (Nat → Nat)} {tw : Nat × (Nat → Nat) × (Nat → Nat)} {xs : List Nat} {ld : Nat × (Nat → Nat)} {pa sh : Nat × (Nat → Nat → Nat)} {ru : Nat × (Nat → Nat) × (Nat → Nat)} {to : Nat × (Nat → Int64)} {i : Int32} (hC : RefIs σ tx bd sk tw xs ld pa sh ru to) : CalM E 1 yX12_keep cX12_keep 3 (some .boolean) [.ref (zA E 33 0), .int i] σ (fun r σ' => r = some (.int (zb (decide (0 ≤ i.toInt ∧ i.toInt < 3)))) ∧ RefIs σ' tx bd sk tw xs ld pa (sKeep sh i ld.2) ru to ∧ FrG [33] σ σ') := by
  refine cal_of_go (own := RX12) rfl (by decide +kernel) (Nat.le_of_ble_eq_true rfl) ?_
  have hN := hC.2.2.2.2.2.1
  have hn : 1 ≤ ld.1 ∧ ld.1 ≤ 12 := ⟨hN.2.1.1, hN.2.1.2.1⟩
  have hV := hC.env.vok hN.2.1
  have hok := hN.2.1
  have hK := hC.2.2.2.2.2.2.2.1
  have hfl := hK.1
  have main : ∀ i1 : Nat, i1 < 3 → ∀ τ, τ.2.1 33 25 = upd (σ.2.1 33 25) i1 (nI 1) → τ.2.1 33 26 = σ.2.1 33 26 → Fr9 [0] [25, 26] σ τ → GoM E 1 RX12 cX12_keep 3 (some .boolean) (fun r σ' => r = some (.int (nI 1)) ∧ RefIs σ' tx bd sk tw xs ld pa (sh.1 ||| 2 ^ i1, fun j => if j = i1 then ld.2 else sh.2 j) ru to ∧ FrG [33] σ σ') τ 26 [(0, .ref (zA E 33 0)), (1, .int (nI i1))] [] := by
    intro i1 hi1
    have loop : ∀ (i : Nat) (τ : zT), i ≤ 29 → (∀ q, q < i → τ.2.1 33 26 (29 * i1 + q) = nI (ld.2 q)) → (∀ q, (q < 29 * i1 ∨ 29 * i1 + 29 ≤ q) → τ.2.1 33 26 q = σ.2.1 33 26 q) → (τ.2.1 33 25 = upd (σ.2.1 33 25) i1 (nI 1)) → (Fr9 [0] [25, 26] σ τ) → GoM E 1 RX12 cX12_keep 3 (some .boolean) (fun r σ' => r = some (.int (nI 1)) ∧ RefIs σ' tx bd sk tw xs ld pa (sh.1 ||| 2 ^ i1, fun j => if j = i1 then ld.2 else sh.2 j) ru to ∧ FrG [33] σ σ') τ 28 [(0, .ref (zA E 33 0)), (1, .int (nI i1)), (2, .int (nI i))] [] := by
      intro i
      induction hz : 29 - i using Nat.strongRecOn generalizing i with
      | ind z ih =>
        intro τ hi hO hK26 h25 hF
        refine go_iload_n (i := 2) (pc := 28) dX12_keep_28 rfl rfl ?_
        refine go_bipush (nI 29) (pc := 29) dX12_keep_29 (by decide) ?_
        refine go_icmp_ge 57 (pc := 31) dX12_keep_31 (by decide) (fun h31 => ?_) (fun h31 => ?_)
        · first | rw [nI_leI (by omega) (by omega)] at h31 | rw [zi_leN (by omega)] at h31 | rw [zi_Nle (by omega)] at h31 | rw [zi_le] at h31
          have e : i = 29 := by omega
          subst e
          refine go_iconst (nI 1) (pc := 57) dX12_keep_57 (by decide) ?_
          refine go_zreturn (pc := 58) dX12_keep_58 rfl (by first | rfl | (apply zb_nar)) ?_
          refine ⟨rfl, ⟨(hC.1).fr hF (by decide) (by decide), (hC.2.1).fr hF (by decide) (by decide), (hC.2.2.1).fr hF (by decide) (by decide) (by decide), (hC.2.2.2.1).fr hF (by decide) (by decide), (hC.2.2.2.2.1).fr hF (by decide) (by decide) (by decide), (hC.2.2.2.2.2.1).fr hF (by decide) (by decide), (hC.2.2.2.2.2.2.1).fr hF (by decide) (by decide), ⟨Nat.or_lt_two_pow (n := 3) hfl (Nat.pow_lt_pow_right (by decide) hi1), fun q hq => ⟨?_, fun hb => ?_⟩⟩, (hC.2.2.2.2.2.2.2.2.1).fr hF (by decide) (by decide) (by decide), (hC.2.2.2.2.2.2.2.2.2).fr hF (by decide) (by decide)⟩, hF.1⟩
          · rw [h25, upd_at, Nat.testBit_or]
            by_cases h : q = i1
            · rw [if_pos h, h, Nat.testBit_two_pow_self, Bool.or_true]; rfl
            · rw [if_neg h, Nat.testBit_two_pow_of_ne (fun e => h e.symm), Bool.or_false]; exact (hK.2 q hq).1
          · by_cases h : q = i1
            · rw [h]
              dsimp only
              rw [if_pos rfl]
              exact ⟨hok, hO⟩
            · dsimp only
              rw [if_neg h]
              rw [Nat.testBit_or, Nat.testBit_two_pow_of_ne (fun e => h e.symm), Bool.or_false] at hb
              refine ⟨((hK.2 q hq).2 hb).1, fun k hk => ?_⟩
              rw [hK26 _ (by omega)]
              exact ((hK.2 q hq).2 hb).2 k hk
        · first | rw [nI_leI (by omega) (by omega)] at h31 | rw [zi_leN (by omega)] at h31 | rw [zi_Nle (by omega)] at h31 | rw [zi_le] at h31
          refine go_aload_n (i := 0) (pc := 34) dX12_keep_34 rfl rfl ?_
          refine go_getr2 fl_X12_94 (pc := 35) dX12_keep_35 (by rfl) (by rfl) (by rfl) ?_
          refine go_bipush (nI 29) (pc := 38) dX12_keep_38 (by decide) ?_
          refine go_iload_n (i := 1) (pc := 40) dX12_keep_40 rfl rfl ?_
          first | with_reducible refine go_imulN (pc := 41) dX12_keep_41 ?_ | refine go_imul (pc := 41) dX12_keep_41 ?_
          refine go_iload_n (i := 2) (pc := 42) dX12_keep_42 rfl rfl ?_
          first | with_reducible refine go_iaddN (pc := 43) dX12_keep_43 ?_ | refine go_iadd (pc := 43) dX12_keep_43 ?_
          refine go_aload_n (i := 0) (pc := 44) dX12_keep_44 rfl rfl ?_
          refine go_getr2 fl_X12_36 (pc := 45) dX12_keep_45 (by rfl) (by rfl) (by rfl) ?_
          refine go_iload_n (i := 2) (pc := 48) dX12_keep_48 rfl rfl ?_
          refine go_iaload _ (pc := 49) dX12_keep_49 (by first | rfl | (apply zM_ar <;> assumption)) (by first | rfl | (apply zM_jn <;> assumption)) rfl (by first | assumption | omega) ?_
          rw [hF.2.2.1 7 (by decide), hN.2.2 i (by omega)]
          refine go_iastore (29 * i1 + i) (pc := 50) dX12_keep_50 rfl rfl rfl (by omega) ?_
          refine go_iincN (pc := 51) dX12_keep_51 rfl (by decide) ?_
          refine go_goto 28 (pc := 54) dX12_keep_54 (by decide) ?_
          exact ih (29 - (i + 1)) (by omega) (i + 1) rfl _ (by omega) (fun q hq => by rw [uA_s, upd_at]; split; (rw [show q = i by omega]); exact hO q (by omega)) (fun q hq => by rw [uA_s, upd_at, if_neg (by omega)]; exact hK26 q hq) h25 (hF.uA (by simp))
    intro τ h25 h26 hF
    refine go_iconst (nI 0) (pc := 26) dX12_keep_26 (by decide) ?_
    refine go_istore_n (i := 2) (pc := 27) dX12_keep_27 rfl (by decide) ?_
    exact loop 0 τ (by omega) (fun q hq => absurd hq (by omega)) (fun q _ => by rw [h26]) h25 hF
  refine go_aload_n (i := 0) (pc := 0) dX12_keep_0 rfl rfl ?_
  refine go_iconst (nI 0) (pc := 1) dX12_keep_1 (by decide) ?_
  refine go_puti fp_X12_97 (pc := 2) dX12_keep_2 (by rfl) rfl rfl ?_
  have hF : Fr9 [0] [25, 26] σ (uS σ 33 0 (nI 0)) := Fr9.rf.uS (by simp)
  refine go_iload_n (i := 1) (pc := 5) dX12_keep_5 rfl rfl ?_
  refine go_i2l (pc := 6) dX12_keep_6 ?_
  refine go_lconst (lN 0) (pc := 7) dX12_keep_7 (by decide) ?_
  refine go_ldc2 (2) kc_X12_279 (pc := 8) dX12_keep_8 ?_
  refine go_callS ml_X12_107 mt_X12_in (pc := 11) dX12_keep_11 (c_in (lo := 0) (hi := 2) (by decide) (by decide)) (by decide) (by decide) rfl rfl (Nat.le_of_ble_eq_true rfl) (fun r σ' hp => ?_)
  obtain ⟨rfl, hσ⟩ := hp
  rw [hσ]
  clear hσ σ'
  dsimp only [zRet]
  refine go_if_ne 19 (pc := 14) dX12_keep_14 (by decide) (fun h14 => ?_) (fun h14 => ?_)
  · first | rw [zb_0d] at h14 | rw [zn_eq0 (by omega)] at h14 | rw [zi_eq0] at h14
    have hi3 : 0 ≤ i.toInt ∧ i.toInt < 3 := by omega
    unfold sKeep
    rw [if_pos hi3, zb_t (decide_eq_true hi3)]
    clear hi3
    have hi2 : i.toInt ≤ 2 := by omega
    have ei1 := nI_of' (x := i) (by omega)
    generalize hqi1 : i.toInt.toNat = i1 at ei1 ⊢
    subst ei1
    refine go_aload_n (i := 0) (pc := 19) dX12_keep_19 rfl rfl ?_
    refine go_getr2 fl_X12_90 (pc := 20) dX12_keep_20 (by rfl) (by rfl) (by rfl) ?_
    refine go_iload_n (i := 1) (pc := 23) dX12_keep_23 rfl rfl ?_
    refine go_iconst (nI 1) (pc := 24) dX12_keep_24 (by decide) ?_
    refine go_zastore i1 (pc := 25) dX12_keep_25 rfl rfl rfl (by omega) rfl ?_
    exact main i1 (by omega) _ (uA_s _ _ _ _) (by rw [uA_2, if_neg (by decide)]; rfl) (hF.uA (by simp))
  · first | rw [zb_0d] at h14 | rw [zn_eq0 (by omega)] at h14 | rw [zi_eq0] at h14
    refine go_iconst (nI 0) (pc := 17) dX12_keep_17 (by decide) ?_
    refine go_zreturn (pc := 18) dX12_keep_18 rfl rfl ?_
    unfold sKeep
    rw [if_neg (by omega)]
    exact ⟨zr_f (by omega), hC.t0.1, hF.1⟩

theorem c_X12_again {E : zE} {σ : zT} {tx : Nat × (Nat → Nat)} {bd : Nat × (Nat → Nat) × (Nat → Nat)} {sk : Nat × (Nat → Nat)} {tw : Nat × (Nat → Nat) × (Nat → Nat)} {xs : List Nat} {ld : Nat × (Nat → Nat)} {pa sh : Nat × (Nat → Nat → Nat)} {ru : Nat × (Nat → Nat) × (Nat → Nat)} {to : Nat × (Nat → Int64)} {i : Int32} (hC : RefIs σ tx bd sk tw xs ld pa sh ru to) : CalM E 1 yX12_again cX12_again 3 (some .boolean) [.ref (zA E 33 0), .int i] σ (fun r σ' => r = some (.int (zb (decide (kept sh i)))) ∧ RefIs σ' tx bd sk tw xs (if kept sh i then (ld.1, sh.2 i.toInt.toNat) else ld) (if kept sh i then (0, pa.2) else pa) sh ru to ∧ FrG [33] σ σ') := by
  refine cal_of_go (own := RX12) rfl (by decide +kernel) (Nat.le_of_ble_eq_true rfl) ?_
  have hN := hC.2.2.2.2.2.1
  have hn : 1 ≤ ld.1 ∧ ld.1 ≤ 12 := ⟨hN.2.1.1, hN.2.1.2.1⟩
  have hV := hC.env.vok hN.2.1
  have hok := hN.2.1
  have hK := hC.2.2.2.2.2.2.2.1
  have hfl := hK.1
  have hU := hC.2.2.2.2.2.2.1
  have main : ∀ i1 : Nat, i1 < 3 → sh.1.testBit i1 = true → ∀ τ, Fr9 [0, 29] [7] σ τ → GoM E 1 RX12 cX12_again 3 (some .boolean) (fun r σ' => r = some (.int (nI 1)) ∧ RefIs σ' tx bd sk tw xs (ld.1, sh.2 i1) (0, pa.2) sh ru to ∧ FrG [33] σ σ') τ 28 [(0, .ref (zA E 33 0)), (1, .int (nI i1))] [] := by
    intro i1 hi1 hb1
    obtain ⟨hk1, hk2⟩ := (hK.2 i1 hi1).2 hb1
    have loop : ∀ (i : Nat) (τ : zT), i ≤ 29 → (∀ q, q < i → τ.2.1 33 7 q = nI (sh.2 i1 q)) → (Fr9 [0, 29] [7] σ τ) → GoM E 1 RX12 cX12_again 3 (some .boolean) (fun r σ' => r = some (.int (nI 1)) ∧ RefIs σ' tx bd sk tw xs (ld.1, sh.2 i1) (0, pa.2) sh ru to ∧ FrG [33] σ σ') τ 30 [(0, .ref (zA E 33 0)), (1, .int (nI i1)), (2, .int (nI i))] [] := by
      intro i
      induction hz : 29 - i using Nat.strongRecOn generalizing i with
      | ind z ih =>
        intro τ hi hO hF
        refine go_iload_n (i := 2) (pc := 30) dX12_again_30 rfl rfl ?_
        refine go_bipush (nI 29) (pc := 31) dX12_again_31 (by decide) ?_
        refine go_icmp_ge 59 (pc := 33) dX12_again_33 (by decide) (fun h33 => ?_) (fun h33 => ?_)
        · first | rw [nI_leI (by omega) (by omega)] at h33 | rw [zi_leN (by omega)] at h33 | rw [zi_Nle (by omega)] at h33 | rw [zi_le] at h33
          have e : i = 29 := by omega
          subst e
          refine go_aload_n (i := 0) (pc := 59) dX12_again_59 rfl rfl ?_
          refine go_iconst (nI 0) (pc := 60) dX12_again_60 (by decide) ?_
          refine go_puti fp_X12_181 (pc := 61) dX12_again_61 (by rfl) rfl rfl ?_
          refine go_iconst (nI 1) (pc := 64) dX12_again_64 (by decide) ?_
          refine go_zreturn (pc := 65) dX12_again_65 rfl (by first | rfl | (apply zb_nar)) ?_
          have hF2 := hF.uS (f := 29) (v := nI 0) (by simp)
          exact ⟨rfl, ⟨(hC.1).fr hF2 (by decide) (by decide), (hC.2.1).fr hF2 (by decide) (by decide), (hC.2.2.1).fr hF2 (by decide) (by decide) (by decide), (hC.2.2.2.1).fr hF2 (by decide) (by decide), (hC.2.2.2.2.1).fr hF2 (by decide) (by decide) (by decide), ⟨by rw [hF2.2.1 _ (by decide)]; exact hN.1, hk1, hO⟩, ⟨Nat.zero_le _, uS_s _ _ _ _, fun q hq => absurd hq (by dsimp only; omega)⟩, (hC.2.2.2.2.2.2.2.1).fr hF2 (by decide) (by decide), (hC.2.2.2.2.2.2.2.2.1).fr hF2 (by decide) (by decide) (by decide), (hC.2.2.2.2.2.2.2.2.2).fr hF2 (by decide) (by decide)⟩, hF2.1⟩
        · first | rw [nI_leI (by omega) (by omega)] at h33 | rw [zi_leN (by omega)] at h33 | rw [zi_Nle (by omega)] at h33 | rw [zi_le] at h33
          refine go_aload_n (i := 0) (pc := 36) dX12_again_36 rfl rfl ?_
          refine go_getr2 fl_X12_36 (pc := 37) dX12_again_37 (by rfl) (by rfl) (by rfl) ?_
          refine go_iload_n (i := 2) (pc := 40) dX12_again_40 rfl rfl ?_
          refine go_aload_n (i := 0) (pc := 41) dX12_again_41 rfl rfl ?_
          refine go_getr2 fl_X12_94 (pc := 42) dX12_again_42 (by rfl) (by rfl) (by rfl) ?_
          refine go_bipush (nI 29) (pc := 45) dX12_again_45 (by decide) ?_
          refine go_iload_n (i := 1) (pc := 47) dX12_again_47 rfl rfl ?_
          first | with_reducible refine go_imulN (pc := 48) dX12_again_48 ?_ | refine go_imul (pc := 48) dX12_again_48 ?_
          refine go_iload_n (i := 2) (pc := 49) dX12_again_49 rfl rfl ?_
          first | with_reducible refine go_iaddN (pc := 50) dX12_again_50 ?_ | refine go_iadd (pc := 50) dX12_again_50 ?_
          refine go_iaload (29 * i1 + i) (pc := 51) dX12_again_51 rfl rfl rfl (by omega) ?_
          rw [hF.2.2.1 26 (by decide), hk2 i (by omega)]
          refine go_iastore _ (pc := 52) dX12_again_52 (by first | rfl | (apply zM_ar <;> assumption)) (by first | rfl | (apply zM_jn <;> assumption)) rfl (by first | assumption | omega) ?_
          refine go_iincN (pc := 53) dX12_again_53 rfl (by decide) ?_
          refine go_goto 30 (pc := 56) dX12_again_56 (by decide) ?_
          exact ih (29 - (i + 1)) (by omega) (i + 1) rfl _ (by omega) (fun q hq => by rw [uA_s, upd_at]; split; (rename_i e; rw [e]); exact hO q (by omega)) (hF.uA (by simp))
    intro τ hF
    refine go_iconst (nI 0) (pc := 28) dX12_again_28 (by decide) ?_
    refine go_istore_n (i := 2) (pc := 29) dX12_again_29 rfl (by decide) ?_
    exact loop 0 τ (by omega) (fun q hq => absurd hq (by omega)) hF
  refine go_aload_n (i := 0) (pc := 0) dX12_again_0 rfl rfl ?_
  refine go_iconst (nI 0) (pc := 1) dX12_again_1 (by decide) ?_
  refine go_puti fp_X12_97 (pc := 2) dX12_again_2 (by rfl) rfl rfl ?_
  have hF : Fr9 [0, 29] [7] σ (uS σ 33 0 (nI 0)) := Fr9.rf.uS (by simp)
  refine go_iload_n (i := 1) (pc := 5) dX12_again_5 rfl rfl ?_
  refine go_i2l (pc := 6) dX12_again_6 ?_
  refine go_lconst (lN 0) (pc := 7) dX12_again_7 (by decide) ?_
  refine go_ldc2 (2) kc_X12_279 (pc := 8) dX12_again_8 ?_
  refine go_callS ml_X12_107 mt_X12_in (pc := 11) dX12_again_11 (c_in (lo := 0) (hi := 2) (by decide) (by decide)) (by decide) (by decide) rfl rfl (Nat.le_of_ble_eq_true rfl) (fun r σ' hp => ?_)
  obtain ⟨rfl, hσ⟩ := hp
  rw [hσ]
  clear hσ σ'
  dsimp only [zRet]
  refine go_if_eq 26 (pc := 14) dX12_again_14 (by decide) (fun h14 => ?_) (fun h14 => ?_)
  · first | rw [zb_0d] at h14 | rw [zn_eq0 (by omega)] at h14 | rw [zi_eq0] at h14
    refine go_iconst (nI 0) (pc := 26) dX12_again_26 (by decide) ?_
    refine go_zreturn (pc := 27) dX12_again_27 rfl rfl ?_
    first
      | (have hk : ¬ kept sh i := fun h => hnb (by have := h.2.2; rw [hi1.2.1] at this; exact this)
         rw [if_neg hk, if_neg hk]
         exact ⟨zr_f hk, hC.t0.1, hF.1⟩)
      | (have hk : ¬ kept sh i := fun h => h14 ⟨h.1, by have := h.2.1; omega⟩
         rw [if_neg hk, if_neg hk]
         exact ⟨zr_f hk, hC.t0.1, hF.1⟩)
  · first | rw [zb_0d] at h14 | rw [zn_eq0 (by omega)] at h14 | rw [zi_eq0] at h14
    have hi2 : 0 ≤ i.toInt ∧ i.toInt ≤ 2 := by omega
    obtain ⟨i1, hi1⟩ : ∃ i1 : Nat, i = nI i1 ∧ i.toInt.toNat = i1 ∧ i1 < 3 := ⟨i.toInt.toNat, nI_of' hi2.1, rfl, by omega⟩
    refine go_aload_n (i := 0) (pc := 17) dX12_again_17 rfl rfl ?_
    refine go_getr2 fl_X12_90 (pc := 18) dX12_again_18 (by rfl) (by rfl) (by rfl) ?_
    refine go_iload_n (i := 1) (pc := 21) dX12_again_21 rfl rfl ?_
    refine go_zaload i1 (pc := 22) dX12_again_22 rfl rfl hi1.1 (by omega) ?_
    refine go_top (congrArg Value.int (show _ = zb (sh.1.testBit i1) from (hK.2 i1 hi1.2.2).1)) ?_
    refine go_if_ne 28 (pc := 23) dX12_again_23 (by decide) (fun h23 => ?_) (fun h23 => ?_)
    · rw [zb_0] at h23
      have hyb : sh.1.testBit i1 = true := by simpa using h23
      have hk : kept sh i := ⟨hi2.1, by omega, by rw [hi1.2.1]; exact hyb⟩
      rw [if_pos hk, if_pos hk, zb_t (decide_eq_true hk), hi1.2.1]
      obtain ⟨e1, -, e3⟩ := hi1
      clear hk
      subst e1
      exact main i1 e3 hyb _ hF
    · rw [zb_0] at h23
      have hnb : ¬ sh.1.testBit i1 = true := by rw [h23]; decide
      refine go_iconst (nI 0) (pc := 26) dX12_again_26 (by decide) ?_
      refine go_zreturn (pc := 27) dX12_again_27 rfl rfl ?_
      first
        | (have hk : ¬ kept sh i := fun h => hnb (by have := h.2.2; rw [hi1.2.1] at this; exact this)
           rw [if_neg hk, if_neg hk]
           exact ⟨zr_f hk, hC.t0.1, hF.1⟩)
        | (have hk : ¬ kept sh i := fun h => h14 ⟨h.1, by have := h.2.1; omega⟩
           rw [if_neg hk, if_neg hk]
           exact ⟨zr_f hk, hC.t0.1, hF.1⟩)

theorem c_X12_count {E : zE} {σ : zT} {tx : Nat × (Nat → Nat)} {bd : Nat × (Nat → Nat) × (Nat → Nat)} {sk : Nat × (Nat → Nat)} {tw : Nat × (Nat → Nat) × (Nat → Nat)} {xs : List Nat} {ld : Nat × (Nat → Nat)} {pa sh : Nat × (Nat → Nat → Nat)} {ru : Nat × (Nat → Nat) × (Nat → Nat)} {to : Nat × (Nat → Int64)} {w : Int32} (hC : RefIs σ tx bd sk tw xs ld pa sh ru to) : CalM E 1 yX12_count cX12_count 2 (some .int) [.ref (zA E 33 0), .int w] σ (fun r σ' => r = some (.int (cntA tx bd sk tw ld pa ru to w)) ∧ RefIs σ' tx bd sk tw xs ld pa sh ru to ∧ FrG [33] σ σ') := by
  refine cal_of_go (own := RX12) rfl (by decide +kernel) (Nat.le_of_ble_eq_true rfl) ?_
  refine go_aload_n (i := 0) (pc := 0) dX12_count_0 rfl rfl ?_
  refine go_iconst (nI 0) (pc := 1) dX12_count_1 (by decide) ?_
  refine go_puti fp_X12_97 (pc := 2) dX12_count_2 (by rfl) rfl rfl ?_
  obtain ⟨hC0, hG0, ht0⟩ := hC.t0
  generalize uS σ 33 0 (nI 0) = τ0 at hC0 hG0 ht0 ⊢
  have hN := hC0.2.2.2.2.2.1
  refine go_iload_n (i := 1) (pc := 5) dX12_count_5 rfl rfl ?_
  rcases (show w.toInt < 0 ∨ 14 < w.toInt ∨ w.toInt = 0 ∨ w.toInt = 1 ∨ w.toInt = 2 ∨ w.toInt = 3 ∨ w.toInt = 4 ∨ w.toInt = 5 ∨ w.toInt = 6 ∨ w.toInt = 7 ∨ w.toInt = 8 ∨ w.toInt = 9 ∨ w.toInt = 10 ∨ w.toInt = 11 ∨ w.toInt = 12 ∨ w.toInt = 13 ∨ w.toInt = 14 by omega) with h6 | h6 | h6 | h6 | h6 | h6 | h6 | h6 | h6 | h6 | h6 | h6 | h6 | h6 | h6 | h6 | h6
  · refine go_tableOut 178 (pc := 6) dX12_count_6 (by omega) (by decide) ?_
    refine go_bipush (-100) (pc := 178) dX12_count_178 (by decide) ?_
    refine go_ireturn (pc := 180) dX12_count_180 rfl ?_
    refine ⟨?_, hC0, hG0⟩
    unfold cntA
    first
      | (rw [if_neg (by omega)])
      | (rw [if_pos (by omega), h6]; rfl)
  · refine go_tableOut 178 (pc := 6) dX12_count_6 (by omega) (by decide) ?_
    refine go_bipush (-100) (pc := 178) dX12_count_178 (by decide) ?_
    refine go_ireturn (pc := 180) dX12_count_180 rfl ?_
    refine ⟨?_, hC0, hG0⟩
    unfold cntA
    first
      | (rw [if_neg (by omega)])
      | (rw [if_pos (by omega), h6]; rfl)
  · refine go_tableIn 80 (pc := 6) dX12_count_6 (by omega) (by omega) (by rw [h6]; rfl) (by decide) ?_
    refine go_aload_n (i := 0) (pc := 80) dX12_count_80 rfl rfl ?_
    refine go_geti fl_X12_13 (pc := 81) dX12_count_81 (by rfl) ?_
    rw [hN.1]
    refine go_ireturn (pc := 84) dX12_count_84 rfl ?_
    refine ⟨?_, hC0, hG0⟩
    unfold cntA
    first
      | (rw [if_neg (by omega)])
      | (rw [if_pos (by omega), h6]; rfl)
  · refine go_tableIn 85 (pc := 6) dX12_count_6 (by omega) (by omega) (by rw [h6]; rfl) (by decide) ?_
    refine go_aload_n (i := 0) (pc := 85) dX12_count_85 rfl rfl ?_
    refine go_geti fl_X12_111 (pc := 86) dX12_count_86 (by rfl) ?_
    rw [hC0.2.2.1.2.1]
    refine go_ireturn (pc := 89) dX12_count_89 rfl ?_
    refine ⟨?_, hC0, hG0⟩
    unfold cntA
    first
      | (rw [if_neg (by omega)])
      | (rw [if_pos (by omega), h6]; rfl)
  · refine go_tableIn 90 (pc := 6) dX12_count_6 (by omega) (by omega) (by rw [h6]; rfl) (by decide) ?_
    refine go_aload_n (i := 0) (pc := 90) dX12_count_90 rfl rfl ?_
    refine go_geti fl_X12_200 (pc := 91) dX12_count_91 (by rfl) ?_
    rw [hC0.2.2.2.2.1.2.1]
    refine go_ireturn (pc := 94) dX12_count_94 rfl ?_
    refine ⟨?_, hC0, hG0⟩
    unfold cntA
    first
      | (rw [if_neg (by omega)])
      | (rw [if_pos (by omega), h6]; rfl)
  · refine go_tableIn 95 (pc := 6) dX12_count_6 (by omega) (by omega) (by rw [h6]; rfl) (by decide) ?_
    refine go_aload_n (i := 0) (pc := 95) dX12_count_95 rfl rfl ?_
    refine go_getr2 fl_X12_36 (pc := 96) dX12_count_96 (by rfl) (by rfl) (by rfl) ?_
    refine go_bipush (nI 25) (pc := 99) dX12_count_99 (by decide) ?_
    refine go_iaload _ (pc := 101) dX12_count_101 (by first | rfl | (apply zM_ar <;> assumption)) (by first | rfl | (apply zM_jn <;> assumption)) rfl (by first | assumption | omega) ?_
    rw [hN.2.2 25 (by decide)]
    refine go_ireturn (pc := 102) dX12_count_102 rfl ?_
    refine ⟨?_, hC0, hG0⟩
    unfold cntA
    first
      | (rw [if_neg (by omega)])
      | (rw [if_pos (by omega), h6]; rfl)
  · refine go_tableIn 103 (pc := 6) dX12_count_6 (by omega) (by omega) (by rw [h6]; rfl) (by decide) ?_
    refine go_aload_n (i := 0) (pc := 103) dX12_count_103 rfl rfl ?_
    refine go_getr2 fl_X12_36 (pc := 104) dX12_count_104 (by rfl) (by rfl) (by rfl) ?_
    refine go_bipush (nI 26) (pc := 107) dX12_count_107 (by decide) ?_
    refine go_iaload _ (pc := 109) dX12_count_109 (by first | rfl | (apply zM_ar <;> assumption)) (by first | rfl | (apply zM_jn <;> assumption)) rfl (by first | assumption | omega) ?_
    rw [hN.2.2 26 (by decide)]
    refine go_ireturn (pc := 110) dX12_count_110 rfl ?_
    refine ⟨?_, hC0, hG0⟩
    unfold cntA
    first
      | (rw [if_neg (by omega)])
      | (rw [if_pos (by omega), h6]; rfl)
  · refine go_tableIn 111 (pc := 6) dX12_count_6 (by omega) (by omega) (by rw [h6]; rfl) (by decide) ?_
    refine go_aload_n (i := 0) (pc := 111) dX12_count_111 rfl rfl ?_
    refine go_getr2 fl_X12_36 (pc := 112) dX12_count_112 (by rfl) (by rfl) (by rfl) ?_
    refine go_bipush (nI 27) (pc := 115) dX12_count_115 (by decide) ?_
    refine go_iaload _ (pc := 117) dX12_count_117 (by first | rfl | (apply zM_ar <;> assumption)) (by first | rfl | (apply zM_jn <;> assumption)) rfl (by first | assumption | omega) ?_
    rw [hN.2.2 27 (by decide)]
    refine go_ireturn (pc := 118) dX12_count_118 rfl ?_
    refine ⟨?_, hC0, hG0⟩
    unfold cntA
    first
      | (rw [if_neg (by omega)])
      | (rw [if_pos (by omega), h6]; rfl)
  · refine go_tableIn 119 (pc := 6) dX12_count_6 (by omega) (by omega) (by rw [h6]; rfl) (by decide) ?_
    refine go_aload_n (i := 0) (pc := 119) dX12_count_119 rfl rfl ?_
    refine go_getr2 fl_X12_36 (pc := 120) dX12_count_120 (by rfl) (by rfl) (by rfl) ?_
    refine go_bipush (nI 28) (pc := 123) dX12_count_123 (by decide) ?_
    refine go_iaload _ (pc := 125) dX12_count_125 (by first | rfl | (apply zM_ar <;> assumption)) (by first | rfl | (apply zM_jn <;> assumption)) rfl (by first | assumption | omega) ?_
    rw [hN.2.2 28 (by decide)]
    refine go_ireturn (pc := 126) dX12_count_126 rfl ?_
    refine ⟨?_, hC0, hG0⟩
    unfold cntA
    first
      | (rw [if_neg (by omega)])
      | (rw [if_pos (by omega), h6]; rfl)
  · refine go_tableIn 127 (pc := 6) dX12_count_6 (by omega) (by omega) (by rw [h6]; rfl) (by decide) ?_
    refine go_aload_n (i := 0) (pc := 127) dX12_count_127 rfl rfl ?_
    refine go_aload_n (i := 0) (pc := 128) dX12_count_128 rfl rfl ?_
    refine go_getr2 fl_X12_36 (pc := 129) dX12_count_129 (by rfl) (by rfl) (by rfl) ?_
    refine go_callV ml_X12_259 mt_X12_allMen (pc := 132) dX12_count_132 (c_X12_allMen (j := 7) rfl hN.2.2 hN.2.1 hN.1) (by rfl) rfl (by rfl) (by decide) (by decide) rfl rfl (Nat.le_of_ble_eq_true rfl) (fun r σ' hp => ?_)
    obtain ⟨rfl, hσ⟩ := hp
    rw [hσ]
    clear hσ σ'
    dsimp only [zRet]
    refine go_ireturn (pc := 135) dX12_count_135 rfl ?_
    refine ⟨?_, hC0, hG0⟩
    unfold cntA
    first
      | (rw [if_neg (by omega)])
      | (rw [if_pos (by omega), h6]; rfl)
  · refine go_tableIn 136 (pc := 6) dX12_count_6 (by omega) (by omega) (by rw [h6]; rfl) (by decide) ?_
    refine go_aload_n (i := 0) (pc := 136) dX12_count_136 rfl rfl ?_
    refine go_getr2 fl_X12_36 (pc := 137) dX12_count_137 (by rfl) (by rfl) (by rfl) ?_
    refine go_bipush (nI 24) (pc := 140) dX12_count_140 (by decide) ?_
    refine go_iaload _ (pc := 142) dX12_count_142 (by first | rfl | (apply zM_ar <;> assumption)) (by first | rfl | (apply zM_jn <;> assumption)) rfl (by first | assumption | omega) ?_
    rw [hN.2.2 24 (by decide)]
    refine go_ireturn (pc := 143) dX12_count_143 rfl ?_
    refine ⟨?_, hC0, hG0⟩
    unfold cntA
    first
      | (rw [if_neg (by omega)])
      | (rw [if_pos (by omega), h6]; rfl)
  · refine go_tableIn 144 (pc := 6) dX12_count_6 (by omega) (by omega) (by rw [h6]; rfl) (by decide) ?_
    refine go_aload_n (i := 0) (pc := 144) dX12_count_144 rfl rfl ?_
    refine go_aload_n (i := 0) (pc := 145) dX12_count_145 rfl rfl ?_
    refine go_getr2 fl_X12_36 (pc := 146) dX12_count_146 (by rfl) (by rfl) (by rfl) ?_
    refine go_callV ml_X12_337 mt_X12_allHedge (pc := 149) dX12_count_149 (c_X12_allHedge (j := 7) rfl hN.2.2 hN.2.1 hN.1) (by rfl) rfl (by rfl) (by decide) (by decide) rfl rfl (Nat.le_of_ble_eq_true rfl) (fun r σ' hp => ?_)
    obtain ⟨rfl, hσ⟩ := hp
    rw [hσ]
    clear hσ σ'
    dsimp only [zRet]
    refine go_ireturn (pc := 152) dX12_count_152 rfl ?_
    refine ⟨?_, hC0, hG0⟩
    unfold cntA
    first
      | (rw [if_neg (by omega)])
      | (rw [if_pos (by omega), h6]; rfl)
  · refine go_tableIn 153 (pc := 6) dX12_count_6 (by omega) (by omega) (by rw [h6]; rfl) (by decide) ?_
    refine go_aload_n (i := 0) (pc := 153) dX12_count_153 rfl rfl ?_
    refine go_geti fl_X12_17 (pc := 154) dX12_count_154 (by rfl) ?_
    rw [hC0.2.2.2.1.2.2.1]
    refine go_ireturn (pc := 157) dX12_count_157 rfl ?_
    refine ⟨?_, hC0, hG0⟩
    unfold cntA
    first
      | (rw [if_neg (by omega)])
      | (rw [if_pos (by omega), h6]; rfl)
  · refine go_tableIn 158 (pc := 6) dX12_count_6 (by omega) (by omega) (by rw [h6]; rfl) (by decide) ?_
    refine go_aload_n (i := 0) (pc := 158) dX12_count_158 rfl rfl ?_
    refine go_geti fl_X12_410 (pc := 159) dX12_count_159 (by rfl) ?_
    rw [hC0.2.2.2.2.2.2.2.2.1.2.1]
    refine go_ireturn (pc := 162) dX12_count_162 rfl ?_
    refine ⟨?_, hC0, hG0⟩
    unfold cntA
    first
      | (rw [if_neg (by omega)])
      | (rw [if_pos (by omega), h6]; rfl)
  · refine go_tableIn 163 (pc := 6) dX12_count_6 (by omega) (by omega) (by rw [h6]; rfl) (by decide) ?_
    refine go_aload_n (i := 0) (pc := 163) dX12_count_163 rfl rfl ?_
    refine go_geti fl_X12_181 (pc := 164) dX12_count_164 (by rfl) ?_
    rw [hC0.2.2.2.2.2.2.1.2.1]
    refine go_ireturn (pc := 167) dX12_count_167 rfl ?_
    refine ⟨?_, hC0, hG0⟩
    unfold cntA
    first
      | (rw [if_neg (by omega)])
      | (rw [if_pos (by omega), h6]; rfl)
  · refine go_tableIn 168 (pc := 6) dX12_count_6 (by omega) (by omega) (by rw [h6]; rfl) (by decide) ?_
    refine go_aload_n (i := 0) (pc := 168) dX12_count_168 rfl rfl ?_
    refine go_geti fl_X12_104 (pc := 169) dX12_count_169 (by rfl) ?_
    rw [hC0.2.2.2.2.2.2.2.2.2.2.1]
    refine go_ireturn (pc := 172) dX12_count_172 rfl ?_
    refine ⟨?_, hC0, hG0⟩
    unfold cntA
    first
      | (rw [if_neg (by omega)])
      | (rw [if_pos (by omega), h6]; rfl)
  · refine go_tableIn 173 (pc := 6) dX12_count_6 (by omega) (by omega) (by rw [h6]; rfl) (by decide) ?_
    refine go_aload_n (i := 0) (pc := 173) dX12_count_173 rfl rfl ?_
    refine go_geti fl_X12_118 (pc := 174) dX12_count_174 (by rfl) ?_
    rw [hC0.2.1.1]
    refine go_ireturn (pc := 177) dX12_count_177 rfl ?_
    refine ⟨?_, hC0, hG0⟩
    unfold cntA
    first
      | (rw [if_neg (by omega)])
      | (rw [if_pos (by omega), h6]; rfl)

theorem c_X12_row {E : zE} {σ : zT} {tx : Nat × (Nat → Nat)} {bd : Nat × (Nat → Nat) × (Nat → Nat)} {sk : Nat × (Nat → Nat)} {tw : Nat × (Nat → Nat) × (Nat → Nat)} {xs : List Nat} {ld : Nat × (Nat → Nat)} {pa sh : Nat × (Nat → Nat → Nat)} {ru : Nat × (Nat → Nat) × (Nat → Nat)} {to : Nat × (Nat → Int64)} {i : Int32} (hC : RefIs σ tx bd sk tw xs ld pa sh ru to) : CalM E 1 yX12_row cX12_row 2 (some .long) [.ref (zA E 33 0), .int i] σ (fun r σ' => r = some (.long (match rowA to i with | none => lN 0 | some v => v)) ∧ RefIs σ' tx bd sk tw xs ld pa sh ru to ∧ FrG [33] σ σ' ∧ σ'.1 33 0 = thr0 (rowA to i)) := by
  refine cal_of_go (own := RX12) rfl (by decide +kernel) (Nat.le_of_ble_eq_true rfl) ?_
  refine go_aload_n (i := 0) (pc := 0) dX12_row_0 rfl rfl ?_
  refine go_iconst (nI 0) (pc := 1) dX12_row_1 (by decide) ?_
  refine go_puti fp_X12_97 (pc := 2) dX12_row_2 (by rfl) rfl rfl ?_
  obtain ⟨hC0, hG0, ht0⟩ := hC.t0
  generalize uS σ 33 0 (nI 0) = τ0 at hC0 hG0 ht0 ⊢
  have hT := hC0.2.2.2.2.2.2.2.2.2
  have h12 := hT.1
  refine go_iload_n (i := 1) (pc := 5) dX12_row_5 rfl rfl ?_
  refine go_i2l (pc := 6) dX12_row_6 ?_
  refine go_lconst (lN 0) (pc := 7) dX12_row_7 (by decide) ?_
  refine go_aload_n (i := 0) (pc := 8) dX12_row_8 rfl rfl ?_
  refine go_geti fl_X12_104 (pc := 9) dX12_row_9 (by rfl) ?_
  rw [hT.2.1]
  refine go_iconst (nI 1) (pc := 12) dX12_row_12 (by decide) ?_
  refine go_isub (pc := 13) dX12_row_13 ?_
  refine go_i2l (pc := 14) dX12_row_14 ?_
  refine go_callS ml_X12_107 mt_X12_in (pc := 15) dX12_row_15 (c_in (lo := 0) (hi := (to.1 : Int) - 1) (by decide) (by rw [zl_i, zi_p (by omega)])) (by decide) (by decide) rfl rfl (Nat.le_of_ble_eq_true rfl) (fun r σ' hp => ?_)
  obtain ⟨rfl, hσ⟩ := hp
  rw [hσ]
  clear hσ σ'
  dsimp only [zRet]
  refine go_if_ne 28 (pc := 18) dX12_row_18 (by decide) (fun h18 => ?_) (fun h18 => ?_)
  · first | rw [zb_0d] at h18 | rw [zn_eq0 (by omega)] at h18 | rw [zi_eq0] at h18
    have hir : inB i to.1 := by omega
    rw [show rowA to i = some _ from if_pos hir]
    dsimp only [thr0]
    clear hir
    have hit : i.toInt < (to.1 : Int) := by omega
    have ei1 := nI_of' (x := i) (by omega)
    generalize hqi1 : i.toInt.toNat = i1 at ei1 ⊢
    subst ei1
    refine go_aload_n (i := 0) (pc := 28) dX12_row_28 rfl rfl ?_
    refine go_getr2 fl_X12_9 (pc := 29) dX12_row_29 (by rfl) (by rfl) (by rfl) ?_
    refine go_iload_n (i := 1) (pc := 32) dX12_row_32 rfl rfl ?_
    refine go_laload i1 (pc := 33) dX12_row_33 rfl rfl rfl (by omega) ?_
    refine go_top (congrArg Value.long (hT.2.2 i1 (by omega))) ?_
    refine go_lreturn (pc := 34) dX12_row_34 rfl ?_
    exact ⟨rfl, hC0, hG0, ht0⟩
  · first | rw [zb_0d] at h18 | rw [zn_eq0 (by omega)] at h18 | rw [zi_eq0] at h18
    refine go_aload_n (i := 0) (pc := 21) dX12_row_21 rfl rfl ?_
    refine go_iconst (nI 1) (pc := 22) dX12_row_22 (by decide) ?_
    refine go_puti fp_X12_97 (pc := 23) dX12_row_23 (by rfl) rfl rfl ?_
    refine go_lconst (lN 0) (pc := 26) dX12_row_26 (by decide) ?_
    refine go_lreturn (pc := 27) dX12_row_27 rfl ?_
    rw [show rowA to i = none from if_neg (by omega)]
    exact ⟨rfl, (hC0.fr (fs := [0]) (js := []) (Fr9.rf.uS (by simp)) (by decide) (by decide)), hG0.uS (by simp), uS_s _ _ _ _⟩

theorem c_X12_forget {E : zE} {σ : zT} {tx : Nat × (Nat → Nat)} {bd : Nat × (Nat → Nat) × (Nat → Nat)} {sk : Nat × (Nat → Nat)} {tw : Nat × (Nat → Nat) × (Nat → Nat)} {xs : List Nat} {ld : Nat × (Nat → Nat)} {pa sh : Nat × (Nat → Nat → Nat)} {ru : Nat × (Nat → Nat) × (Nat → Nat)} {to : Nat × (Nat → Int64)} (hC : RefIs σ tx bd sk tw xs ld pa sh ru to) : CalM E 1 yX12_forget cX12_forget 2 (some .int) [.ref (zA E 33 0)] σ (fun r σ' => r = some (.int (nI ru.1)) ∧ RefIs σ' tx bd sk tw xs ld pa sh (0, ru.2) to ∧ FrG [33] σ σ') := by
  refine cal_of_go (own := RX12) rfl (by decide +kernel) (Nat.le_of_ble_eq_true rfl) ?_
  refine go_aload_n (i := 0) (pc := 0) dX12_forget_0 rfl rfl ?_
  refine go_iconst (nI 0) (pc := 1) dX12_forget_1 (by decide) ?_
  refine go_puti fp_X12_97 (pc := 2) dX12_forget_2 (by rfl) rfl rfl ?_
  obtain ⟨hC0, hG0, ht0⟩ := hC.t0
  generalize uS σ 33 0 (nI 0) = τ0 at hC0 hG0 ht0 ⊢
  have hH := hC0.2.2.2.2.2.2.2.2.1
  refine go_aload_n (i := 0) (pc := 5) dX12_forget_5 rfl rfl ?_
  refine go_geti fl_X12_410 (pc := 6) dX12_forget_6 (by rfl) ?_
  rw [hH.2.1]
  refine go_istore_n (i := 1) (pc := 9) dX12_forget_9 rfl (by decide) ?_
  refine go_aload_n (i := 0) (pc := 10) dX12_forget_10 rfl rfl ?_
  refine go_iconst (nI 0) (pc := 11) dX12_forget_11 (by decide) ?_
  refine go_puti fp_X12_410 (pc := 12) dX12_forget_12 (by rfl) rfl rfl ?_
  refine go_iload_n (i := 1) (pc := 15) dX12_forget_15 rfl rfl ?_
  refine go_ireturn (pc := 16) dX12_forget_16 rfl ?_
  have hF : Fr9 [39] [] τ0 (uS τ0 33 39 (nI 0)) := Fr9.rf.uS (by simp)
  exact ⟨rfl, ⟨(hC0.1).fr hF (by decide) (by decide), (hC0.2.1).fr hF (by decide) (by decide), (hC0.2.2.1).fr hF (by decide) (by decide) (by decide), (hC0.2.2.2.1).fr hF (by decide) (by decide), (hC0.2.2.2.2.1).fr hF (by decide) (by decide) (by decide), (hC0.2.2.2.2.2.1).fr hF (by decide) (by decide), (hC0.2.2.2.2.2.2.1).fr hF (by decide) (by decide), (hC0.2.2.2.2.2.2.2.1).fr hF (by decide) (by decide), ⟨Nat.zero_le _, uS_s _ _ _ _, fun q hq => absurd hq (by dsimp only; omega)⟩, (hC0.2.2.2.2.2.2.2.2.2).fr hF (by decide) (by decide)⟩, hG0.tr hF.1⟩

