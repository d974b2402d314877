def stp (c x : Nat) : Nat := if c = 1 then x - 1 else if c = 2 then min 9 (x + 1) else x
def stG (c : Nat) (ρ : Nat → Nat) (i : Nat) : Nat → Nat := fun q => if q < i then stp c (ρ q) else ρ q
theorem stG_up (c : Nat) (ρ : Nat → Nat) (i : Nat) : va_up (stG c ρ i) i (stp c (ρ i)) = stG c ρ (i + 1) := by
  funext q
  rw [va_at']
  unfold stG
  by_cases h : q = i
  · rw [if_pos h, if_pos (by omega), h]
  · rw [if_neg h]
    by_cases h2 : q < i
    · rw [if_pos h2, if_pos (by omega)]
    · rw [if_neg h2, if_neg (by omega)]
theorem stG_at (c : Nat) (ρ : Nat → Nat) (i q : Nat) (h : i ≤ q) : stG c ρ i q = ρ q := if_neg (by omega)
theorem stG_end {n c : Nat} {ρ : Nat → Nat} : ∀ q, q < 29 → n ≤ 12 → va_up (if c = 3 then va_up (stG c ρ n) (ρ 27 % n) 0 else stG c ρ n) 27 (ρ 27 + 1) q = endW n ρ c q := by
  intro q hq hn
  unfold endW
  rw [va_at', va_at']
  by_cases h27 : q = 27
  · rw [if_pos h27, if_pos h27]
  · rw [if_neg h27, if_neg h27]
    by_cases h1 : c = 1
    · subst h1
      rw [if_neg (by decide), if_pos rfl]
      rfl
    · rw [if_neg h1]
      by_cases h2 : c = 2
      · subst h2
        rw [if_neg (by decide), if_pos rfl]
        rfl
      · rw [if_neg h2]
        have e : stG c ρ n = ρ := by
          funext i
          unfold stG stp
          rw [if_neg h1, if_neg h2]
          split <;> rfl
        rw [e]
theorem wk1_1 {V : zV} {ρ : Nat → Nat} : (wk1 V ρ).1 = (crsA V 0 ρ).1 := rfl

theorem c_X12_weekGoes {E : zE} {σ : zT} {V : zV} {j : Nat} {ρ : Nat → Nat} (hE : EnvR σ V) (hw : RwIs σ j ρ) (hok : RowOK (vN V) ρ) (hj : zM j = true) (h27 : ρ 27 + 1 < 2 ^ 28) (h28 : ρ 28 + 72 < 2 ^ 28) : CalM E 8 yX12_weekGoes cX12_weekGoes 5 (some .int) [.ref (zA E 33 0), .ref (zA E 33 j)] σ (fun r σ' => r = some (.int (nI (wk1 V ρ).1)) ∧ RwIs σ' j (wk1 V ρ).2.2 ∧ Fr9 [27, 28] [13, 14, 16, j] σ σ') := by
  refine cal_of_go (own := RX12) rfl (by decide +kernel) (Nat.le_of_ble_eq_true rfl) ?_
  have hV := hE.vok hok
  have hn : 1 ≤ vN V ∧ vN V ≤ 12 := ⟨hok.1, hok.2.1⟩
  have hj16 : j ≠ 16 ∧ j ≠ 13 ∧ j ≠ 14 := (by rcases zM_or hj with rfl | rfl <;> decide)
  have hE9 : ∀ {τ : zT}, Fr9 [27, 28] [13, 14, 16, j] σ τ → EnvR τ V := fun hF => hE.fr hF (by decide) (by rcases zM_or hj with rfl | rfl <;> decide)
  obtain ⟨k1, k2, k3, k4, -⟩ := crs_ok (st := 0) hV hok (vC V) (Nat.le_refl _)
  have e28 : (crs V 0 ρ (vC V)).2.2.2 28 = ρ 28 := k2 28 (by decide)
  have e27 : (crs V 0 ρ (vC V)).2.2.2 27 = ρ 27 := k2 27 (by decide)
  have hl72 : (crs V 0 ρ (vC V)).2.1 ≤ 72 := Nat.le_trans k3 (Nat.mul_le_mul_left 9 hV.2.2.1)
  have hok1 : RowOK (vN V) (va_up (crs V 0 ρ (vC V)).2.2.2 28 (ρ 28 + (crs V 0 ρ (vC V)).2.1)) := k1.hi (Or.inr (Or.inr ⟨Or.inr rfl, by omega⟩))
  have hend : (wk1 V ρ).2.2 = endW (vN V) (va_up (crs V 0 ρ (vC V)).2.2.2 28 (ρ 28 + (crs V 0 ρ (vC V)).2.1)) (vW V (va_up (crs V 0 ρ (vC V)).2.2.2 28 (ρ 28 + (crs V 0 ρ (vC V)).2.1) 27 % vS V)) := by
    rw [va_at', if_neg (by decide)]
    show endW (vN V) (va_up (crs V 0 ρ (vC V)).2.2.2 28 ((crs V 0 ρ (vC V)).2.2.2 28 + (crs V 0 ρ (vC V)).2.1)) _ = _
    rw [e28]
    rfl
  have h27' : va_up (crs V 0 ρ (vC V)).2.2.2 28 (ρ 28 + (crs V 0 ρ (vC V)).2.1) 27 = ρ 27 := by rw [va_at', if_neg (by decide), e27]
  have loop : ∀ (ρ1 : Nat → Nat) (c : Nat), RowOK (vN V) ρ1 → c ≤ 3 → ρ1 27 + 1 < 2 ^ 28 → (wk1 V ρ).2.2 = endW (vN V) ρ1 c → ∀ (i : Nat) (τ : zT), i ≤ vN V → RwIs τ j (stG c ρ1 i) → Fr9 [27, 28] [13, 14, 16, j] σ τ → GoM E 8 RX12 cX12_weekGoes 5 (some .int) (fun r σ' => r = some (.int (nI (wk1 V ρ).1)) ∧ RwIs σ' j (wk1 V ρ).2.2 ∧ Fr9 [27, 28] [13, 14, 16, j] σ σ') τ 16 [(0, .ref (zA E 33 0)), (1, .ref (zA E 33 j)), (2, .int (nI (crsA V 0 ρ).1)), (3, .int (nI c)), (4, .int (nI i))] [] := by
    intro ρ1 c hok2 hc3 h271 hen i
    induction hz : vN V - i using Nat.strongRecOn generalizing i with
    | ind z ih =>
      intro τ hi hR hF
      have hE2 := hE9 hF
      have hi9 := hok2.2.2.1 i
      have hmn : ρ1 27 % vN V < vN V := Nat.mod_lt _ hn.1
      refine go_iload (pc := 16) dX12_weekGoes_16 rfl ?_
      refine go_aload_n (i := 0) (pc := 18) dX12_weekGoes_18 rfl rfl ?_
      refine go_geti fl_X12_13 (pc := 19) dX12_weekGoes_19 (by rfl) ?_
      rw [hE2.2.2.2]
      refine go_icmp_ge 76 (pc := 22) dX12_weekGoes_22 (by decide) (fun h22 => ?_) (fun h22 => ?_)
      · first | rw [nI_leI (by omega) (by omega)] at h22 | rw [zi_leN (by omega)] at h22 | rw [zi_Nle (by omega)] at h22 | rw [zi_le] at h22
        have e : i = vN V := by omega
        subst e
        refine go_iload_n (i := 3) (pc := 76) dX12_weekGoes_76 rfl rfl ?_
        refine go_iconst (nI 3) (pc := 77) dX12_weekGoes_77 (by decide) ?_
        refine go_icmp_ne 93 (pc := 78) dX12_weekGoes_78 (by decide) (fun h78 => ?_) (fun h78 => ?_)
        · first | rw [nI_eq (by omega) (by omega)] at h78 | rw [zi_eqN (by omega)] at h78 | rw [zi_Neq (by omega)] at h78 | rw [zi_eq] at h78
          have h78 : ¬ c = 3 := h78
          have hR2 : RwIs τ j (if c = 3 then va_up (stG c ρ1 (vN V)) (ρ1 27 % vN V) 0 else stG c ρ1 (vN V)) := by rw [if_neg h78]; exact hR
          have hF2 := hF
          refine go_aload_n (i := 1) (pc := 93) dX12_weekGoes_93 rfl rfl ?_
          refine go_bipush (nI 27) (pc := 94) dX12_weekGoes_94 (by decide) ?_
          refine go_dup2 (pc := 96) dX12_weekGoes_96 rfl rfl ?_
          refine go_iaload 27 (pc := 97) dX12_weekGoes_97 (zM_ar hj) (zM_jn hj) rfl (by decide) ?_
          rw [hR2 27 (by decide), show (if c = 3 then va_up (stG c ρ1 (vN V)) (ρ1 27 % vN V) 0 else stG c ρ1 (vN V)) 27 = ρ1 27 by split <;> first | exact stG_at c ρ1 (vN V) 27 (by omega) | (rw [va_at', if_neg (by omega)]; exact stG_at c ρ1 (vN V) 27 (by omega))]
          refine go_iconst (nI 1) (pc := 98) dX12_weekGoes_98 (by decide) ?_
          first | with_reducible refine go_iaddN (pc := 99) dX12_weekGoes_99 ?_ | refine go_iadd (pc := 99) dX12_weekGoes_99 ?_
          refine go_iastore 27 (pc := 100) dX12_weekGoes_100 (zM_ar hj) (zM_jn hj) rfl (by decide) ?_
          refine go_iload_n (i := 2) (pc := 101) dX12_weekGoes_101 rfl rfl ?_
          refine go_ireturn (pc := 102) dX12_weekGoes_102 rfl ?_
          refine ⟨rfl, ?_, hF2.uA (by simp)⟩
          rw [hen]
          exact hR2.up.cg (fun q hq => stG_end q hq hn.2)
        · first | rw [nI_eq (by omega) (by omega)] at h78 | rw [zi_eqN (by omega)] at h78 | rw [zi_Neq (by omega)] at h78 | rw [zi_eq] at h78
          refine go_aload_n (i := 1) (pc := 81) dX12_weekGoes_81 rfl rfl ?_
          refine go_aload_n (i := 1) (pc := 82) dX12_weekGoes_82 rfl rfl ?_
          refine go_bipush (nI 27) (pc := 83) dX12_weekGoes_83 (by decide) ?_
          refine go_iaload 27 (pc := 85) dX12_weekGoes_85 (zM_ar hj) (zM_jn hj) rfl (by decide) ?_
          rw [hR 27 (by decide), stG_at _ _ _ _ (by omega)]
          refine go_aload_n (i := 0) (pc := 86) dX12_weekGoes_86 rfl rfl ?_
          refine go_geti fl_X12_13 (pc := 87) dX12_weekGoes_87 (by rfl) ?_
          rw [hE2.2.2.2]
          refine go_irem (pc := 90) dX12_weekGoes_90 (by rw [zn_eq0 (by omega)]; omega) ?_
          rw [pk_rem (by omega) (by omega) (by omega)]
          refine go_iconst (nI 0) (pc := 91) dX12_weekGoes_91 (by decide) ?_
          refine go_iastore (ρ1 27 % vN V) (pc := 92) dX12_weekGoes_92 (zM_ar hj) (zM_jn hj) rfl (by omega) ?_
          have hR2 : RwIs (uA τ 33 j (upd (τ.2.1 33 j) (ρ1 27 % vN V) (nI 0))) j (if c = 3 then va_up (stG c ρ1 (vN V)) (ρ1 27 % vN V) 0 else stG c ρ1 (vN V)) := by rw [if_pos h78]; exact hR.up
          have hF2 : Fr9 [27, 28] [13, 14, 16, j] σ (uA τ 33 j (upd (τ.2.1 33 j) (ρ1 27 % vN V) (nI 0))) := hF.uA (by simp)
          generalize uA τ 33 j (upd (τ.2.1 33 j) (ρ1 27 % vN V) (nI 0)) = τ2 at hR2 hF2 ⊢
          refine go_aload_n (i := 1) (pc := 93) dX12_weekGoes_93 rfl rfl ?_
          refine go_bipush (nI 27) (pc := 94) dX12_weekGoes_94 (by decide) ?_
          refine go_dup2 (pc := 96) dX12_weekGoes_96 rfl rfl ?_
          refine go_iaload 27 (pc := 97) dX12_weekGoes_97 (zM_ar hj) (zM_jn hj) rfl (by decide) ?_
          rw [hR2 27 (by decide), show (if c = 3 then va_up (stG c ρ1 (vN V)) (ρ1 27 % vN V) 0 else stG c ρ1 (vN V)) 27 = ρ1 27 by split <;> first | exact stG_at c ρ1 (vN V) 27 (by omega) | (rw [va_at', if_neg (by omega)]; exact stG_at c ρ1 (vN V) 27 (by omega))]
          refine go_iconst (nI 1) (pc := 98) dX12_weekGoes_98 (by decide) ?_
          first | with_reducible refine go_iaddN (pc := 99) dX12_weekGoes_99 ?_ | refine go_iadd (pc := 99) dX12_weekGoes_99 ?_
          refine go_iastore 27 (pc := 100) dX12_weekGoes_100 (zM_ar hj) (zM_jn hj) rfl (by decide) ?_
          refine go_iload_n (i := 2) (pc := 101) dX12_weekGoes_101 rfl rfl ?_
          refine go_ireturn (pc := 102) dX12_weekGoes_102 rfl ?_
          refine ⟨rfl, ?_, hF2.uA (by simp)⟩
          rw [hen]
          exact hR2.up.cg (fun q hq => stG_end q hq hn.2)
      · first | rw [nI_leI (by omega) (by omega)] at h22 | rw [zi_leN (by omega)] at h22 | rw [zi_Nle (by omega)] at h22 | rw [zi_le] at h22
        refine go_aload_n (i := 1) (pc := 25) dX12_weekGoes_25 rfl rfl ?_
        refine go_iload (pc := 26) dX12_weekGoes_26 rfl ?_
        refine go_iload_n (i := 3) (pc := 28) dX12_weekGoes_28 rfl rfl ?_
        refine go_iconst (nI 1) (pc := 29) dX12_weekGoes_29 (by decide) ?_
        refine go_icmp_ne 46 (pc := 30) dX12_weekGoes_30 (by decide) (fun h30 => ?_) (fun h30 => ?_)
        · first | rw [nI_eq (by omega) (by omega)] at h30 | rw [zi_eqN (by omega)] at h30 | rw [zi_Neq (by omega)] at h30 | rw [zi_eq] at h30
          refine go_iload_n (i := 3) (pc := 46) dX12_weekGoes_46 rfl rfl ?_
          refine go_iconst (nI 2) (pc := 47) dX12_weekGoes_47 (by decide) ?_
          refine go_icmp_ne 65 (pc := 48) dX12_weekGoes_48 (by decide) (fun h48 => ?_) (fun h48 => ?_)
          · first | rw [nI_eq (by omega) (by omega)] at h48 | rw [zi_eqN (by omega)] at h48 | rw [zi_Neq (by omega)] at h48 | rw [zi_eq] at h48
            refine go_aload_n (i := 1) (pc := 65) dX12_weekGoes_65 rfl rfl ?_
            refine go_iload (pc := 66) dX12_weekGoes_66 rfl ?_
            refine go_iaload i (pc := 68) dX12_weekGoes_68 (zM_ar hj) (zM_jn hj) rfl (by omega) ?_
            rw [hR i (by omega), stG_at _ _ _ _ (Nat.le_refl i)]
            have hi9 := hi9 (by omega)
            refine go_top (congrArg (fun z => Value.int (nI z)) (show _ = stp c (ρ1 i) by unfold stp; first | rw [if_pos h30] | rw [if_neg h30, if_pos h48] | rw [if_neg h30, if_neg h48])) ?_
            refine go_iastore i (pc := 69) dX12_weekGoes_69 (zM_ar hj) (zM_jn hj) rfl (by omega) ?_
            refine go_iincN (pc := 70) dX12_weekGoes_70 rfl (by decide) ?_
            refine go_goto 16 (pc := 73) dX12_weekGoes_73 (by decide) ?_
            refine ih (vN V - (i + 1)) (by omega) (i + 1) rfl _ (by omega) ?_ (hF.uA (by simp))
            rw [← stG_up]
            exact hR.up
          · first | rw [nI_eq (by omega) (by omega)] at h48 | rw [zi_eqN (by omega)] at h48 | rw [zi_Neq (by omega)] at h48 | rw [zi_eq] at h48
            refine go_bipush (nI 9) (pc := 51) dX12_weekGoes_51 (by decide) ?_
            refine go_aload_n (i := 1) (pc := 53) dX12_weekGoes_53 rfl rfl ?_
            refine go_iload (pc := 54) dX12_weekGoes_54 rfl ?_
            refine go_iaload i (pc := 56) dX12_weekGoes_56 (zM_ar hj) (zM_jn hj) rfl (by omega) ?_
            rw [hR i (by omega), stG_at _ _ _ _ (Nat.le_refl i)]
            have hi9 := hi9 (by omega)
            refine go_iconst (nI 1) (pc := 57) dX12_weekGoes_57 (by decide) ?_
            first | with_reducible refine go_iaddN (pc := 58) dX12_weekGoes_58 ?_ | refine go_iadd (pc := 58) dX12_weekGoes_58 ?_
            refine go_callS ml_X12_127 mt_J9_min_7cf53 (pc := 59) dX12_weekGoes_59 (c_J9_minN (by decide) (by omega)) (by decide) (by decide) rfl rfl (Nat.le_of_ble_eq_true rfl) (fun r σ' hp => ?_)
            obtain ⟨rfl, hσ⟩ := hp
            rw [hσ]
            clear hσ σ'
            dsimp only [zRet]
            refine go_goto 69 (pc := 62) dX12_weekGoes_62 (by decide) ?_
            refine go_top (congrArg (fun z => Value.int (nI z)) (show _ = stp c (ρ1 i) by unfold stp; first | rw [if_pos h30] | rw [if_neg h30, if_pos h48] | rw [if_neg h30, if_neg h48])) ?_
            refine go_iastore i (pc := 69) dX12_weekGoes_69 (zM_ar hj) (zM_jn hj) rfl (by omega) ?_
            refine go_iincN (pc := 70) dX12_weekGoes_70 rfl (by decide) ?_
            refine go_goto 16 (pc := 73) dX12_weekGoes_73 (by decide) ?_
            refine ih (vN V - (i + 1)) (by omega) (i + 1) rfl _ (by omega) ?_ (hF.uA (by simp))
            rw [← stG_up]
            exact hR.up
        · first | rw [nI_eq (by omega) (by omega)] at h30 | rw [zi_eqN (by omega)] at h30 | rw [zi_Neq (by omega)] at h30 | rw [zi_eq] at h30
          refine go_iconst (nI 0) (pc := 33) dX12_weekGoes_33 (by decide) ?_
          refine go_aload_n (i := 1) (pc := 34) dX12_weekGoes_34 rfl rfl ?_
          refine go_iload (pc := 35) dX12_weekGoes_35 rfl ?_
          refine go_iaload i (pc := 37) dX12_weekGoes_37 (zM_ar hj) (zM_jn hj) rfl (by omega) ?_
          rw [hR i (by omega), stG_at _ _ _ _ (Nat.le_refl i)]
          have hi9 := hi9 (by omega)
          refine go_iconst (nI 1) (pc := 38) dX12_weekGoes_38 (by decide) ?_
          refine go_isub (pc := 39) dX12_weekGoes_39 ?_
          refine go_callS ml_X12_244 mt_J9_max_7cf53 (pc := 40) dX12_weekGoes_40 (c_J9_max_7cf53) (by decide) (by decide) rfl rfl (Nat.le_of_ble_eq_true rfl) (fun r σ' hp => ?_)
          obtain ⟨rfl, hσ⟩ := hp
          rw [hσ]
          clear hσ σ'
          dsimp only [zRet]
          rw [maxSub (by omega) (by decide)]
          refine go_goto 69 (pc := 43) dX12_weekGoes_43 (by decide) ?_
          refine go_top (congrArg (fun z => Value.int (nI z)) (show _ = stp c (ρ1 i) by unfold stp; first | rw [if_pos h30] | rw [if_neg h30, if_pos h48] | rw [if_neg h30, if_neg h48])) ?_
          refine go_iastore i (pc := 69) dX12_weekGoes_69 (zM_ar hj) (zM_jn hj) rfl (by omega) ?_
          refine go_iincN (pc := 70) dX12_weekGoes_70 rfl (by decide) ?_
          refine go_goto 16 (pc := 73) dX12_weekGoes_73 (by decide) ?_
          refine ih (vN V - (i + 1)) (by omega) (i + 1) rfl _ (by omega) ?_ (hF.uA (by simp))
          rw [← stG_up]
          exact hR.up
  refine go_aload_n (i := 0) (pc := 0) dX12_weekGoes_0 rfl rfl ?_
  refine go_aload_n (i := 1) (pc := 1) dX12_weekGoes_1 rfl rfl ?_
  refine go_iconst (nI 0) (pc := 2) dX12_weekGoes_2 (by decide) ?_
  refine go_callV ml_X12_295 mt_X12_crossings (pc := 3) dX12_weekGoes_3 (c_X12_crossings (st := 0) hE hw hok hj (by decide) h28) (by rfl) rfl (by rfl) (by decide) (by decide) rfl rfl (Nat.le_of_ble_eq_true rfl) (fun r σ' hp => ?_)
  obtain ⟨rfl, -, hR, hF⟩ := hp
  dsimp only [zRet]
  have hE2 := hE9 hF
  refine go_istore_n (i := 2) (pc := 6) dX12_weekGoes_6 rfl (by decide) ?_
  refine go_aload_n (i := 0) (pc := 7) dX12_weekGoes_7 rfl rfl ?_
  refine go_aload_n (i := 1) (pc := 8) dX12_weekGoes_8 rfl rfl ?_
  refine go_callV ml_X12_255 mt_X12_skyOf (pc := 9) dX12_weekGoes_9 (c_X12_skyOf hE2 hR hok1 hj) (by rfl) rfl (by rfl) (by decide) (by decide) rfl rfl (Nat.le_of_ble_eq_true rfl) (fun r σ2 hp => ?_)
  obtain ⟨rfl, hσ⟩ := hp
  rw [hσ]
  clear hσ
  dsimp only [zRet]
  refine go_istore_n (i := 3) (pc := 12) dX12_weekGoes_12 rfl (by decide) ?_
  refine go_iconst (nI 0) (pc := 13) dX12_weekGoes_13 (by decide) ?_
  refine go_istore (pc := 14) dX12_weekGoes_14 (by decide) ?_
  refine loop _ _ hok1 ?_ (by rw [h27']; exact h27) hend 0 _ (by omega) (hR.cg (fun q _ => (if_neg (by omega)).symm)) hF
  exact hV.2.2.2.2.2.2.1 _ (Nat.mod_lt _ hV.2.2.2.2.1)

theorem wks_s {V : zV} {ρ : Nat → Nat} {t : Nat} : wks V ρ (t + 1) = ((wks V ρ t).1 ||| (wk1 V (wks V ρ t).2.2.2).1, if (wk1 V (wks V ρ t).2.2.2).2.1 = 0 then (wks V ρ t).2.1 + 1 else (wks V ρ t).2.1, (wks V ρ t).2.2.1 + (wk1 V (wks V ρ t).2.2.2).2.1, (wk1 V (wks V ρ t).2.2.2).2.2) := rfl

theorem c_X12_goesOn {E : zE} {σ : zT} {V : zV} {j : Nat} {ρ : Nat → Nat} {n : Nat} (hE : EnvR σ V) (hw : RwIs σ j ρ) (hok : RowOK (vN V) ρ) (hj : zM j = true) (h27 : ρ 27 + n < 2 ^ 28) (h28 : ρ 28 + 72 * n < 2 ^ 28) : CalM E 9 yX12_goesOn cX12_goesOn 5 (some .int) [.ref (zA E 33 0), .ref (zA E 33 j), .int (nI n)] σ (fun r σ' => r = some (.int (nI (wks V ρ n).1)) ∧ RwIs σ' j (wks V ρ n).2.2.2 ∧ Fr9 [27, 28] [13, 14, 16, j] σ σ') := by
  refine cal_of_go (own := RX12) rfl (by decide +kernel) (Nat.le_of_ble_eq_true rfl) ?_
  have hV := hE.vok hok
  have hE9 : ∀ {τ : zT}, Fr9 [27, 28] [13, 14, 16, j] σ τ → EnvR τ V := fun hF => hE.fr hF (by decide) (by rcases zM_or hj with rfl | rfl <;> decide)
  have loop : ∀ (i : Nat) (τ : zT), i ≤ n → RwIs τ j (wks V ρ i).2.2.2 → Fr9 [27, 28] [13, 14, 16, j] σ τ → GoM E 9 RX12 cX12_goesOn 5 (some .int) (fun r σ' => r = some (.int (nI (wks V ρ n).1)) ∧ RwIs σ' j (wks V ρ n).2.2.2 ∧ Fr9 [27, 28] [13, 14, 16, j] σ σ') τ 5 [(0, .ref (zA E 33 0)), (1, .ref (zA E 33 j)), (2, .int (nI n)), (3, .int (nI (wks V ρ i).1)), (4, .int (nI i))] [] := by
    intro i
    induction hz : n - i using Nat.strongRecOn generalizing i with
    | ind z ih =>
      intro τ hi hR hF
      obtain ⟨a1, a2, a3, a4, a5, a6, a7⟩ := wks_ok hV hok i (by omega) (by omega)
      refine go_iload (pc := 5) dX12_goesOn_5 rfl ?_
      refine go_iload_n (i := 2) (pc := 7) dX12_goesOn_7 rfl rfl ?_
      refine go_icmp_ge 25 (pc := 8) dX12_goesOn_8 (by decide) (fun h8 => ?_) (fun h8 => ?_)
      · first | rw [nI_leI (by omega) (by omega)] at h8 | rw [zi_leN (by omega)] at h8 | rw [zi_Nle (by omega)] at h8 | rw [zi_le] at h8
        have e : i = n := by omega
        subst e
        refine go_iload_n (i := 3) (pc := 25) dX12_goesOn_25 rfl rfl ?_
        refine go_ireturn (pc := 26) dX12_goesOn_26 rfl ?_
        exact ⟨rfl, hR, hF⟩
      · first | rw [nI_leI (by omega) (by omega)] at h8 | rw [zi_leN (by omega)] at h8 | rw [zi_Nle (by omega)] at h8 | rw [zi_le] at h8
        refine go_iload_n (i := 3) (pc := 11) dX12_goesOn_11 rfl rfl ?_
        refine go_aload_n (i := 0) (pc := 12) dX12_goesOn_12 rfl rfl ?_
        refine go_aload_n (i := 1) (pc := 13) dX12_goesOn_13 rfl rfl ?_
        refine go_callV ml_X12_298 mt_X12_weekGoes (pc := 14) dX12_goesOn_14 (c_X12_weekGoes (hE9 hF) hR a1 hj (by omega) (by omega)) (by rfl) rfl (by rfl) (by decide) (by decide) rfl rfl (Nat.le_of_ble_eq_true rfl) (fun r σ' hp => ?_)
        obtain ⟨rfl, hR2, hF2⟩ := hp
        dsimp only [zRet]
        refine go_ior (pc := 17) dX12_goesOn_17 ?_
        rw [zorN]
        refine go_istore_n (i := 3) (pc := 18) dX12_goesOn_18 rfl (by decide) ?_
        refine go_iincN (pc := 19) dX12_goesOn_19 rfl (by decide) ?_
        refine go_goto 5 (pc := 22) dX12_goesOn_22 (by decide) ?_
        exact ih (n - (i + 1)) (by omega) (i + 1) rfl _ (by omega) hR2 (hF.tr hF2)
  refine go_iconst (nI 0) (pc := 0) dX12_goesOn_0 (by decide) ?_
  refine go_istore_n (i := 3) (pc := 1) dX12_goesOn_1 rfl (by decide) ?_
  refine go_iconst (nI 0) (pc := 2) dX12_goesOn_2 (by decide) ?_
  refine go_istore (pc := 3) dX12_goesOn_3 (by decide) ?_
  exact loop 0 σ (by omega) hw Fr9.rf

theorem c_X12_copies {E : zE} {σ : zT} {ρ : Nat → Nat} (hw : RwIs σ 7 ρ) : CalM E 0 yX12_copies cX12_copies 2 none [.ref (zA E 33 0)] σ (fun r σ' => r = none ∧ RwIs σ' 8 ρ ∧ Fr9 [] [8] σ σ') := by
  refine cal_of_go (own := RX12) rfl (by decide +kernel) (Nat.le_of_ble_eq_true rfl) ?_
  have loop : ∀ (i : Nat) (τ : zT), i ≤ 29 → (∀ q, q < i → τ.2.1 33 8 q = nI (ρ q)) → Fr9 [] [8] σ τ → GoM E 0 RX12 cX12_copies 2 none (fun r σ' => r = none ∧ RwIs σ' 8 ρ ∧ Fr9 [] [8] σ σ') τ 2 [(0, .ref (zA E 33 0)), (1, .int (nI i))] [] := by
    intro i
    induction hz : 29 - i using Nat.strongRecOn generalizing i with
    | ind z ih =>
      intro τ hi hO hF
      refine go_iload_n (i := 1) (pc := 2) dX12_copies_2 rfl rfl ?_
      refine go_bipush (nI 29) (pc := 3) dX12_copies_3 (by decide) ?_
      refine go_icmp_ge 26 (pc := 5) dX12_copies_5 (by decide) (fun h5 => ?_) (fun h5 => ?_)
      · first | rw [nI_leI (by omega) (by omega)] at h5 | rw [zi_leN (by omega)] at h5 | rw [zi_Nle (by omega)] at h5 | rw [zi_le] at h5
        have e : i = 29 := by omega
        subst e
        refine go_return (pc := 26) dX12_copies_26 rfl ?_
        exact ⟨rfl, hO, hF⟩
      · first | rw [nI_leI (by omega) (by omega)] at h5 | rw [zi_leN (by omega)] at h5 | rw [zi_Nle (by omega)] at h5 | rw [zi_le] at h5
        refine go_aload_n (i := 0) (pc := 8) dX12_copies_8 rfl rfl ?_
        refine go_getr2 fl_X12_39 (pc := 9) dX12_copies_9 (by rfl) (by rfl) (by rfl) ?_
        refine go_iload_n (i := 1) (pc := 12) dX12_copies_12 rfl rfl ?_
        refine go_aload_n (i := 0) (pc := 13) dX12_copies_13 rfl rfl ?_
        refine go_getr2 fl_X12_36 (pc := 14) dX12_copies_14 (by rfl) (by rfl) (by rfl) ?_
        refine go_iload_n (i := 1) (pc := 17) dX12_copies_17 rfl rfl ?_
        refine go_iaload _ (pc := 18) dX12_copies_18 (by first | rfl | (apply zM_ar <;> assumption)) (by first | rfl | (apply zM_jn <;> assumption)) rfl (by first | assumption | omega) ?_
        rw [hF.2.2.1 7 (by decide), hw i (by omega)]
        refine go_iastore _ (pc := 19) dX12_copies_19 (by first | rfl | (apply zM_ar <;> assumption)) (by first | rfl | (apply zM_jn <;> assumption)) rfl (by first | assumption | omega) ?_
        refine go_iincN (pc := 20) dX12_copies_20 rfl (by decide) ?_
        refine go_goto 2 (pc := 23) dX12_copies_23 (by decide) ?_
        exact ih (29 - (i + 1)) (by omega) (i + 1) rfl _ (by omega) (fun q hq => by rw [uA_s, upd_at]; split; (rename_i e; rw [e]); exact hO q (by omega)) (hF.uA (by simp))
  refine go_iconst (nI 0) (pc := 0) dX12_copies_0 (by decide) ?_
  refine go_istore_n (i := 1) (pc := 1) dX12_copies_1 rfl (by decide) ?_
  exact loop 0 σ (by omega) (fun q hq => absurd hq (by omega)) Fr9.rf

theorem c_X12_loadsNow {E : zE} {σ : zT} {V : zV} {ρ : Nat → Nat} {st : Nat} (hE : EnvR σ V) (hw : RwIs σ 8 ρ) (hok : RowOK (vN V) ρ) (hst : st < 2 ^ 12) (h28 : ρ 28 + 72 < 2 ^ 28) : CalM E 8 yX12_loadsNow cX12_loadsNow 3 (some .int) [.ref (zA E 33 0), .int (nI st)] σ (fun r σ' => r = some (.int (nI (crsA V st ρ).2.1)) ∧ Fr9 [27, 28] [13, 14, 16, 8] σ σ') := by
  refine cal_of_go (own := RX12) rfl (by decide +kernel) (Nat.le_of_ble_eq_true rfl) ?_
  refine go_aload_n (i := 0) (pc := 0) dX12_loadsNow_0 rfl rfl ?_
  refine go_getr2 fl_X12_39 (pc := 1) dX12_loadsNow_1 (by rfl) (by rfl) (by rfl) ?_
  refine go_bipush (nI 28) (pc := 4) dX12_loadsNow_4 (by decide) ?_
  refine go_iaload _ (pc := 6) dX12_loadsNow_6 (by first | rfl | (apply zM_ar <;> assumption)) (by first | rfl | (apply zM_jn <;> assumption)) rfl (by first | assumption | omega) ?_
  rw [hw 28 (by decide)]
  refine go_istore_n (i := 2) (pc := 7) dX12_loadsNow_7 rfl (by decide) ?_
  refine go_aload_n (i := 0) (pc := 8) dX12_loadsNow_8 rfl rfl ?_
  refine go_aload_n (i := 0) (pc := 9) dX12_loadsNow_9 rfl rfl ?_
  refine go_getr2 fl_X12_39 (pc := 10) dX12_loadsNow_10 (by rfl) (by rfl) (by rfl) ?_
  refine go_iload_n (i := 1) (pc := 13) dX12_loadsNow_13 rfl rfl ?_
  refine go_callV ml_X12_295 mt_X12_crossings (pc := 14) dX12_loadsNow_14 (c_X12_crossings (j := 8) hE hw hok rfl hst h28) (by rfl) rfl (by rfl) (by decide) (by decide) rfl rfl (Nat.le_of_ble_eq_true rfl) (fun r σ' hp => ?_)
  obtain ⟨rfl, -, hR, hF⟩ := hp
  dsimp only [zRet]
  refine go_pop (pc := 17) dX12_loadsNow_17 rfl ?_
  refine go_aload_n (i := 0) (pc := 18) dX12_loadsNow_18 rfl rfl ?_
  refine go_getr2 fl_X12_39 (pc := 19) dX12_loadsNow_19 (by rfl) (by rfl) (by rfl) ?_
  refine go_bipush (nI 28) (pc := 22) dX12_loadsNow_22 (by decide) ?_
  refine go_iaload _ (pc := 24) dX12_loadsNow_24 (by first | rfl | (apply zM_ar <;> assumption)) (by first | rfl | (apply zM_jn <;> assumption)) rfl (by first | assumption | omega) ?_
  rw [hR 28 (by decide), va_at', if_pos rfl]
  refine go_iload_n (i := 2) (pc := 25) dX12_loadsNow_25 rfl rfl ?_
  first | with_reducible refine go_isubN (pc := 26) dX12_loadsNow_26 (by omega) ?_ | refine go_isub (pc := 26) dX12_loadsNow_26 ?_
  rw [Nat.add_sub_cancel_left]
  refine go_ireturn (pc := 27) dX12_loadsNow_27 rfl ?_
  exact ⟨rfl, hF⟩

theorem c_X12_loadsIn {E : zE} {σ : zT} {V : zV} {ρ : Nat → Nat} {n : Nat} (hE : EnvR σ V) (hw : RwIs σ 8 ρ) (hok : RowOK (vN V) ρ) (h27 : ρ 27 + n < 2 ^ 28) (h28 : ρ 28 + 72 * n < 2 ^ 28) : CalM E 10 yX12_loadsIn cX12_loadsIn 3 (some .int) [.ref (zA E 33 0), .int (nI n)] σ (fun r σ' => r = some (.int (nI (wks V ρ n).2.2.1)) ∧ Fr9 [27, 28] [13, 14, 16, 8] σ σ') := by
  refine cal_of_go (own := RX12) rfl (by decide +kernel) (Nat.le_of_ble_eq_true rfl) ?_
  obtain ⟨a1, a2, a3, a4, a5, a6, a7⟩ := wks_ok (hE.vok hok) hok n h27 h28
  refine go_aload_n (i := 0) (pc := 0) dX12_loadsIn_0 rfl rfl ?_
  refine go_getr2 fl_X12_39 (pc := 1) dX12_loadsIn_1 (by rfl) (by rfl) (by rfl) ?_
  refine go_bipush (nI 28) (pc := 4) dX12_loadsIn_4 (by decide) ?_
  refine go_iaload _ (pc := 6) dX12_loadsIn_6 (by first | rfl | (apply zM_ar <;> assumption)) (by first | rfl | (apply zM_jn <;> assumption)) rfl (by first | assumption | omega) ?_
  rw [hw 28 (by decide)]
  refine go_istore_n (i := 2) (pc := 7) dX12_loadsIn_7 rfl (by decide) ?_
  refine go_aload_n (i := 0) (pc := 8) dX12_loadsIn_8 rfl rfl ?_
  refine go_aload_n (i := 0) (pc := 9) dX12_loadsIn_9 rfl rfl ?_
  refine go_getr2 fl_X12_39 (pc := 10) dX12_loadsIn_10 (by rfl) (by rfl) (by rfl) ?_
  refine go_iload_n (i := 1) (pc := 13) dX12_loadsIn_13 rfl rfl ?_
  refine go_callV ml_X12_330 mt_X12_goesOn (pc := 14) dX12_loadsIn_14 (c_X12_goesOn (j := 8) hE hw hok rfl h27 h28) (by rfl) rfl (by rfl) (by decide) (by decide) rfl rfl (Nat.le_of_ble_eq_true rfl) (fun r σ' hp => ?_)
  obtain ⟨rfl, hR, hF⟩ := hp
  dsimp only [zRet]
  refine go_pop (pc := 17) dX12_loadsIn_17 rfl ?_
  refine go_aload_n (i := 0) (pc := 18) dX12_loadsIn_18 rfl rfl ?_
  refine go_getr2 fl_X12_39 (pc := 19) dX12_loadsIn_19 (by rfl) (by rfl) (by rfl) ?_
  refine go_bipush (nI 28) (pc := 22) dX12_loadsIn_22 (by decide) ?_
  refine go_iaload _ (pc := 24) dX12_loadsIn_24 (by first | rfl | (apply zM_ar <;> assumption)) (by first | rfl | (apply zM_jn <;> assumption)) rfl (by first | assumption | omega) ?_
  rw [hR 28 (by decide), a3]
  refine go_iload_n (i := 2) (pc := 25) dX12_loadsIn_25 rfl rfl ?_
  first | with_reducible refine go_isubN (pc := 26) dX12_loadsIn_26 (by omega) ?_ | refine go_isub (pc := 26) dX12_loadsIn_26 ?_
  rw [Nat.add_sub_cancel_left]
  refine go_ireturn (pc := 27) dX12_loadsIn_27 rfl ?_
  exact ⟨rfl, hF⟩

theorem c_X12_loadsAt {E : zE} {σ : zT} {V : zV} {ρ : Nat → Nat} {v : Nat} (hE : EnvR σ V) (hw : RwIs σ 7 ρ) (hok : RowOK (vN V) ρ) (hv : v ≤ 99) (h28 : ρ 28 + 72 < 2 ^ 28) : CalM E 9 yX12_loadsAt cX12_loadsAt 2 (some .int) [.ref (zA E 33 0), .int (nI v)] σ (fun r σ' => r = some (.int (nI (crsA V 0 (va_up ρ 26 v)).2.1)) ∧ Fr9 [27, 28] [13, 14, 16, 8] σ σ') := by
  refine cal_of_go (own := RX12) rfl (by decide +kernel) (Nat.le_of_ble_eq_true rfl) ?_
  refine go_aload_n (i := 0) (pc := 0) dX12_loadsAt_0 rfl rfl ?_
  refine go_callV ml_X12_356 mt_X12_copies (pc := 1) dX12_loadsAt_1 (c_X12_copies hw) (by rfl) rfl (by rfl) (by decide) (by decide) rfl rfl (Nat.le_of_ble_eq_true rfl) (fun r σ' hp => ?_)
  obtain ⟨rfl, hR, hF⟩ := hp
  dsimp only [zRet]
  refine go_aload_n (i := 0) (pc := 4) dX12_loadsAt_4 rfl rfl ?_
  refine go_getr2 fl_X12_39 (pc := 5) dX12_loadsAt_5 (by rfl) (by rfl) (by rfl) ?_
  refine go_bipush (nI 26) (pc := 8) dX12_loadsAt_8 (by decide) ?_
  refine go_iload_n (i := 1) (pc := 10) dX12_loadsAt_10 rfl rfl ?_
  refine go_iastore _ (pc := 11) dX12_loadsAt_11 (by first | rfl | (apply zM_ar <;> assumption)) (by first | rfl | (apply zM_jn <;> assumption)) rfl (by first | assumption | omega) ?_
  have hR2 := hR.up (i := 26) (v := v)
  have hF2 : Fr9 [] [8] σ (uA σ' 33 8 (upd (σ'.2.1 33 8) 26 (nI v))) := hF.uA (by simp)
  have hE2 := hE.fr hF2 (by decide) (by decide)
  have hok2 : RowOK (vN V) (va_up ρ 26 v) := hok.hi (Or.inr (Or.inl ⟨Or.inr rfl, hv⟩))
  generalize uA σ' 33 8 (upd (σ'.2.1 33 8) 26 (nI v)) = τ2 at hR2 hF2 hE2 ⊢
  refine go_aload_n (i := 0) (pc := 12) dX12_loadsAt_12 rfl rfl ?_
  refine go_iconst (nI 0) (pc := 13) dX12_loadsAt_13 (by decide) ?_
  refine go_callV ml_X12_359 mt_X12_loadsNow (pc := 14) dX12_loadsAt_14 (c_X12_loadsNow (st := 0) hE2 hR2 hok2 (by decide) (by rw [va_at', if_neg (by decide)]; exact h28)) (by rfl) rfl (by rfl) (by decide) (by decide) rfl rfl (Nat.le_of_ble_eq_true rfl) (fun r σ' hp => ?_)
  obtain ⟨rfl, hF3⟩ := hp
  dsimp only [zRet]
  refine go_ireturn (pc := 17) dX12_loadsAt_17 rfl ?_
  exact ⟨rfl, (hF2.mono (by simp) (by simp)).tr hF3⟩

theorem c_tell1 {E : zE} {σ : zT} {v : Int64} (h : σ.1 33 1 = nI 0) : CalM E 0 yX12_enters cX12_enters 3 none [.ref (zA E 33 0), .long v] σ (fun r σ' => r = none ∧ TellIs σ' 1 (ln1 v) ∧ Fr9 [1] [1] σ σ') :=
  cal_weak (c_X12_enters h (by decide)) (fun r σ' q => by
    obtain ⟨q1, rfl⟩ := q
    refine ⟨q1, ⟨by decide, uS_s _ _ _ _, fun i hi => ?_⟩, (Fr9.rf.uL (by simp)).uS (by simp)⟩
    have e : i = 0 := by omega
    subst e
    show (uL σ 33 _).2.2.1 33 0 = _
    rw [uL_3, if_pos rfl, updL_at, if_pos rfl]
    rfl)
theorem c_tell2 {E : zE} {σ : zT} {a v : Int64} (h : TellIs σ 1 (ln1 a)) : CalM E 0 yX12_enters cX12_enters 3 none [.ref (zA E 33 0), .long v] σ (fun r σ' => r = none ∧ TellIs σ' 2 (ln2 a v) ∧ Fr9 [1] [1] σ σ') :=
  cal_weak (c_X12_enters h.2.1 (by decide)) (fun r σ' q => by
    obtain ⟨q1, rfl⟩ := q
    refine ⟨q1, ⟨by decide, uS_s _ _ _ _, fun i hi => ?_⟩, (Fr9.rf.uL (by simp)).uS (by simp)⟩
    show (uL σ 33 _).2.2.1 33 i = _
    rw [uL_3, if_pos rfl, updL_at]
    have e : i = 0 ∨ i = 1 := by omega
    rcases e with rfl | rfl
    · rw [if_neg (by decide)]; exact h.2.2 0 (by decide)
    · rfl)
section RSet
variable {σ σ' : zT} {tx : Nat × (Nat → Nat)} {bd : Nat × (Nat → Nat) × (Nat → Nat)} {sk : Nat × (Nat → Nat)} {tw : Nat × (Nat → Nat) × (Nat → Nat)} {xs : List Nat} {ld : Nat × (Nat → Nat)} {pa sh : Nat × (Nat → Nat → Nat)} {ru : Nat × (Nat → Nat) × (Nat → Nat)} {to : Nat × (Nat → Int64)} {fs js : List Nat}
theorem sc_f1 {a b : Nat} (h : ∀ f ∈ fs, scF f = true ∨ f = b) (ha : scF a = false) (hb : a ≠ b) : a ∉ fs := fun q => by
  rcases h a q with e | e
  · rw [e] at ha; cases ha
  · exact hb e
theorem sc_j1 {a b : Nat} (h : ∀ f ∈ js, scJ f = true ∨ f = b) (ha : scJ a = false) (hb : a ≠ b) : a ∉ js := fun q => by
  rcases h a q with e | e
  · rw [e] at ha; cases ha
  · exact hb e
theorem RefIs.tell {to' : Nat × (Nat → Int64)} (h : RefIs σ tx bd sk tw xs ld pa sh ru to) (hf : Fr9 fs js σ σ') (h1 : ∀ f ∈ fs, scF f = true ∨ f = 1) (h2 : ∀ j ∈ js, scJ j = true ∨ j = 1) (hT : TellIs σ' to'.1 to'.2) : RefIs σ' tx bd sk tw xs ld pa sh ru to' := by
  obtain ⟨a1, a2, a3, a4, a5, a6, a7, a8, a9, a10⟩ := h
  exact ⟨a1.fr hf (sc_f1 h1 rfl (by decide)) (sc_j1 h2 rfl (by decide)), a2.fr hf (sc_f1 h1 rfl (by decide)) (sc_j1 h2 rfl (by decide)), a3.fr hf (sc_f1 h1 rfl (by decide)) (sc_j1 h2 rfl (by decide)) (sc_j1 h2 rfl (by decide)), a4.fr hf (sc_f1 h1 rfl (by decide)) (sc_j1 h2 rfl (by decide)), a5.fr hf (sc_f1 h1 rfl (by decide)) (sc_j1 h2 rfl (by decide)) (sc_j1 h2 rfl (by decide)), a6.fr hf (sc_f1 h1 rfl (by decide)) (sc_j1 h2 rfl (by decide)), a7.fr hf (sc_f1 h1 rfl (by decide)) (sc_j1 h2 rfl (by decide)), a8.fr hf (sc_j1 h2 rfl (by decide)) (sc_j1 h2 rfl (by decide)), a9.fr hf (sc_f1 h1 rfl (by decide)) (sc_j1 h2 rfl (by decide)) (sc_j1 h2 rfl (by decide)), hT⟩
/-- beginning of a call: nothing thrown -/
theorem RefIs.t0 (h : RefIs σ tx bd sk tw xs ld pa sh ru to) : RefIs (uS σ 33 0 (nI 0)) tx bd sk tw xs ld pa sh ru to ∧ FrG [33] σ (uS σ 33 0 (nI 0)) ∧ (uS σ 33 0 (nI 0)).1 33 0 = nI 0 :=
  ⟨h.fr (fs := [0]) (js := []) (Fr9.rf.uS (by simp)) (by decide) (by decide), FrG.rf.uS (by simp), uS_s _ _ _ _⟩
end RSet

