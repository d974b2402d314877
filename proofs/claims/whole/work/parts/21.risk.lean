theorem c_X4_apply0 {E : zE} {σ : zT} {x y : Int32}  : CalM E 0 yX4_apply cX4_apply 3 (some .int) [.int (-11), .int x, .int y] σ (fun r σ' => r = some (.int (wkd 0 x y)) ∧ σ' = σ) := by
  refine cal_of_go (own := RX4) rfl (by decide +kernel) (Nat.le_of_ble_eq_true rfl) ?_
  refine go_iload_n (i := 0) (pc := 0) dX4_apply_0 rfl rfl ?_
  refine go_tableIn 64 (off := 63) (pc := 1) dX4_apply_1 (by decide) (by decide) (by decide) (by decide) ?_
  refine go_iload_n (i := 1) (pc := 64) dX4_apply_64 rfl rfl ?_
  refine go_iload_n (i := 2) (pc := 65) dX4_apply_65 rfl rfl ?_
  refine go_icmp_ge 73 (pc := 66) dX4_apply_66 (by decide) (fun h66 => ?_) (fun h66 => ?_)
  · refine go_iconst (nI 0) (pc := 73) dX4_apply_73 (by decide) ?_
    refine go_ireturn (pc := 74) dX4_apply_74 rfl ?_
    refine ⟨?_, rfl⟩
    unfold wkd
    first | rw [if_pos rfl, if_pos (by first | assumption | exact Int32.not_le.mp (by assumption))] | rw [if_pos rfl, if_neg (by first | assumption | exact Int32.not_lt.mpr (by assumption))]
  · refine go_iconst (nI 1) (pc := 69) dX4_apply_69 (by decide) ?_
    refine go_goto 74 (pc := 70) dX4_apply_70 (by decide) ?_
    refine go_ireturn (pc := 74) dX4_apply_74 rfl ?_
    refine ⟨?_, rfl⟩
    unfold wkd
    first | rw [if_pos rfl, if_pos (by first | assumption | exact Int32.not_le.mp (by assumption))] | rw [if_pos rfl, if_neg (by first | assumption | exact Int32.not_lt.mpr (by assumption))]

theorem c_X4_apply1 {E : zE} {σ : zT} {x y : Int32}  : CalM E 0 yX4_apply cX4_apply 3 (some .int) [.int (-12), .int x, .int y] σ (fun r σ' => r = some (.int (wkd 1 x y)) ∧ σ' = σ) := by
  refine cal_of_go (own := RX4) rfl (by decide +kernel) (Nat.le_of_ble_eq_true rfl) ?_
  refine go_iload_n (i := 0) (pc := 0) dX4_apply_0 rfl rfl ?_
  refine go_tableIn 75 (off := 74) (pc := 1) dX4_apply_1 (by decide) (by decide) (by decide) (by decide) ?_
  refine go_iload_n (i := 1) (pc := 75) dX4_apply_75 rfl rfl ?_
  refine go_iload_n (i := 2) (pc := 76) dX4_apply_76 rfl rfl ?_
  refine go_icmp_le 84 (pc := 77) dX4_apply_77 (by decide) (fun h77 => ?_) (fun h77 => ?_)
  · refine go_iconst (nI 0) (pc := 84) dX4_apply_84 (by decide) ?_
    refine go_ireturn (pc := 85) dX4_apply_85 rfl ?_
    refine ⟨?_, rfl⟩
    unfold wkd
    rw [if_neg (by decide), if_pos rfl]
    first | rw [if_pos (by first | assumption | exact Int32.not_le.mp (by assumption))] | rw [if_neg (by first | assumption | exact Int32.not_lt.mpr (by assumption))]
  · refine go_iconst (nI 1) (pc := 80) dX4_apply_80 (by decide) ?_
    refine go_goto 85 (pc := 81) dX4_apply_81 (by decide) ?_
    refine go_ireturn (pc := 85) dX4_apply_85 rfl ?_
    refine ⟨?_, rfl⟩
    unfold wkd
    rw [if_neg (by decide), if_pos rfl]
    first | rw [if_pos (by first | assumption | exact Int32.not_le.mp (by assumption))] | rw [if_neg (by first | assumption | exact Int32.not_lt.mpr (by assumption))]

theorem c_X4_apply2 {E : zE} {σ : zT} {x y : Int32}  : CalM E 0 yX4_apply cX4_apply 3 (some .int) [.int (-13), .int x, .int y] σ (fun r σ' => r = some (.int (wkd 2 x y)) ∧ σ' = σ) := by
  refine cal_of_go (own := RX4) rfl (by decide +kernel) (Nat.le_of_ble_eq_true rfl) ?_
  refine go_iload_n (i := 0) (pc := 0) dX4_apply_0 rfl rfl ?_
  refine go_tableOut 86 (pc := 1) dX4_apply_1 (by decide) (by decide) ?_
  refine go_iload_n (i := 1) (pc := 86) dX4_apply_86 rfl rfl ?_
  refine go_iload_n (i := 2) (pc := 87) dX4_apply_87 rfl rfl ?_
  refine go_icmp_ne 95 (pc := 88) dX4_apply_88 (by decide) (fun h88 => ?_) (fun h88 => ?_)
  · refine go_iconst (nI 0) (pc := 95) dX4_apply_95 (by decide) ?_
    refine go_ireturn (pc := 96) dX4_apply_96 rfl ?_
    refine ⟨?_, rfl⟩
    unfold wkd
    rw [if_neg (by decide), if_neg (by decide), if_pos rfl]
    first | rw [if_pos (by first | assumption | exact Decidable.not_not.mp (by assumption))] | rw [if_neg (by assumption)]
  · refine go_iconst (nI 1) (pc := 91) dX4_apply_91 (by decide) ?_
    refine go_goto 96 (pc := 92) dX4_apply_92 (by decide) ?_
    refine go_ireturn (pc := 96) dX4_apply_96 rfl ?_
    refine ⟨?_, rfl⟩
    unfold wkd
    rw [if_neg (by decide), if_neg (by decide), if_pos rfl]
    first | rw [if_pos (by first | assumption | exact Decidable.not_not.mp (by assumption))] | rw [if_neg (by assumption)]

theorem c_X4_apply3 {E : zE} {σ : zT} {x y : Int32}  : CalM E 0 yX4_apply cX4_apply 3 (some .int) [.int (-9), .int x, .int y] σ (fun r σ' => r = some (.int (wkd 3 x y)) ∧ σ' = σ) := by
  refine cal_of_go (own := RX4) rfl (by decide +kernel) (Nat.le_of_ble_eq_true rfl) ?_
  refine go_iload_n (i := 0) (pc := 0) dX4_apply_0 rfl rfl ?_
  refine go_tableIn 56 (off := 55) (pc := 1) dX4_apply_1 (by decide) (by decide) (by decide) (by decide) ?_
  refine go_iload_n (i := 1) (pc := 56) dX4_apply_56 rfl rfl ?_
  refine go_iload_n (i := 2) (pc := 57) dX4_apply_57 rfl rfl ?_
  refine go_iadd (pc := 58) dX4_apply_58 ?_
  refine go_ireturn (pc := 59) dX4_apply_59 rfl ?_
  refine ⟨?_, rfl⟩
  unfold wkd
  simp

theorem c_X4_apply4 {E : zE} {σ : zT} {x y : Int32}  : CalM E 0 yX4_apply cX4_apply 3 (some .int) [.int (-10), .int x, .int y] σ (fun r σ' => r = some (.int (wkd 4 x y)) ∧ σ' = σ) := by
  refine cal_of_go (own := RX4) rfl (by decide +kernel) (Nat.le_of_ble_eq_true rfl) ?_
  refine go_iload_n (i := 0) (pc := 0) dX4_apply_0 rfl rfl ?_
  refine go_tableIn 60 (off := 59) (pc := 1) dX4_apply_1 (by decide) (by decide) (by decide) (by decide) ?_
  refine go_iload_n (i := 1) (pc := 60) dX4_apply_60 rfl rfl ?_
  refine go_iload_n (i := 2) (pc := 61) dX4_apply_61 rfl rfl ?_
  refine go_isub (pc := 62) dX4_apply_62 ?_
  refine go_ireturn (pc := 63) dX4_apply_63 rfl ?_
  refine ⟨?_, rfl⟩
  unfold wkd
  simp

theorem c_X4_apply5 {E : zE} {σ : zT} {x y : Int32}  : CalM E 0 yX4_apply cX4_apply 3 (some .int) [.int (-7), .int x, .int y] σ (fun r σ' => r = some (.int (wkd 5 x y)) ∧ σ' = σ) := by
  refine cal_of_go (own := RX4) rfl (by decide +kernel) (Nat.le_of_ble_eq_true rfl) ?_
  refine go_iload_n (i := 0) (pc := 0) dX4_apply_0 rfl rfl ?_
  refine go_tableIn 40 (off := 39) (pc := 1) dX4_apply_1 (by decide) (by decide) (by decide) (by decide) ?_
  refine go_iload_n (i := 1) (pc := 40) dX4_apply_40 rfl rfl ?_
  refine go_iload_n (i := 2) (pc := 41) dX4_apply_41 rfl rfl ?_
  refine go_imul (pc := 42) dX4_apply_42 ?_
  refine go_ireturn (pc := 43) dX4_apply_43 rfl ?_
  refine ⟨?_, rfl⟩
  unfold wkd
  simp

theorem c_X4_apply6 {E : zE} {σ : zT} {x y : Int32}  : CalM E 0 yX4_apply cX4_apply 3 (some .int) [.int (-8), .int x, .int y] σ (fun r σ' => r = some (.int (wkd 6 x y)) ∧ σ' = σ) := by
  refine cal_of_go (own := RX4) rfl (by decide +kernel) (Nat.le_of_ble_eq_true rfl) ?_
  refine go_iload_n (i := 0) (pc := 0) dX4_apply_0 rfl rfl ?_
  refine go_tableIn 44 (off := 43) (pc := 1) dX4_apply_1 (by decide) (by decide) (by decide) (by decide) ?_
  refine go_iload_n (i := 2) (pc := 44) dX4_apply_44 rfl rfl ?_
  refine go_if_ne 52 (pc := 45) dX4_apply_45 (by decide) (fun h45 => ?_) (fun h45 => ?_)
  · refine go_iload_n (i := 1) (pc := 52) dX4_apply_52 rfl rfl ?_
    refine go_iload_n (i := 2) (pc := 53) dX4_apply_53 rfl rfl ?_
    refine go_idiv (pc := 54) dX4_apply_54 (by assumption) ?_
    refine go_ireturn (pc := 55) dX4_apply_55 rfl ?_
    refine ⟨?_, rfl⟩
    unfold wkd
    rw [if_neg (by decide), if_neg (by decide), if_neg (by decide), if_neg (by decide), if_neg (by decide), if_neg (by decide)]
    first | rw [if_pos (by first | assumption | exact Decidable.not_not.mp (by assumption))] | rw [if_neg (by assumption)]
  · refine go_iconst (nI 0) (pc := 48) dX4_apply_48 (by decide) ?_
    refine go_goto 55 (pc := 49) dX4_apply_49 (by decide) ?_
    refine go_ireturn (pc := 55) dX4_apply_55 rfl ?_
    refine ⟨?_, rfl⟩
    unfold wkd
    rw [if_neg (by decide), if_neg (by decide), if_neg (by decide), if_neg (by decide), if_neg (by decide), if_neg (by decide)]
    first | rw [if_pos (by first | assumption | exact Decidable.not_not.mp (by assumption))] | rw [if_neg (by assumption)]

theorem c_X4_apply {E : zE} {σ : zT} {t : Nat} {x y : Int32} (h1 : 2000 ≤ t) (h2 : t < 2007) : CalM E 0 yX4_apply cX4_apply 3 (some .int) [.int (ctok t), .int x, .int y] σ (fun r σ' => r = some (.int (wkd (t - 2000) x y)) ∧ σ' = σ) := by
  have : t = 2000 ∨ t = 2001 ∨ t = 2002 ∨ t = 2003 ∨ t = 2004 ∨ t = 2005 ∨ t = 2006 := by omega
  rcases this with rfl | rfl | rfl | rfl | rfl | rfl | rfl
  · exact c_X4_apply0
  · exact c_X4_apply1
  · exact c_X4_apply2
  · exact c_X4_apply3
  · exact c_X4_apply4
  · exact c_X4_apply5
  · exact c_X4_apply6
theorem ctok_num {t : Nat} (h : t < 1000) : ctok t = nI t := if_pos h
theorem ctok_thing {t : Nat} (h : 1000 ≤ t) (h2 : t < 1005) : (ctok t).toInt = 999 - (t : Int) := by
  have : t = 1000 ∨ t = 1001 ∨ t = 1002 ∨ t = 1003 ∨ t = 1004 := by omega
  rcases this with rfl | rfl | rfl | rfl | rfl <;> decide
theorem ctok_thing2 {t : Nat} (h : 1000 ≤ t) (h2 : t < 1005) : (-1 : Int32) - ctok t = nI (t - 1000) := by
  have : t = 1000 ∨ t = 1001 ∨ t = 1002 ∨ t = 1003 ∨ t = 1004 := by omega
  rcases this with rfl | rfl | rfl | rfl | rfl <;> decide
theorem ctok_act {t : Nat} (h : 2000 ≤ t) (h2 : t < 2007) : (ctok t).toInt < -6 := by
  have : t = 2000 ∨ t = 2001 ∨ t = 2002 ∨ t = 2003 ∨ t = 2004 ∨ t = 2005 ∨ t = 2006 := by omega
  rcases this with rfl | rfl | rfl | rfl | rfl | rfl | rfl <;> decide
theorem zm5 : (-5 : Int32).toInt = -5 := by decide
theorem zm6 : (-6 : Int32).toInt = -6 := by decide

set_option maxRecDepth 20000 in
theorem c_X4_risk {E : zE} {σ : zT} {k h g l w o : Nat} {xs : List Nat} (hk : zRl k = true) (hR : RuleIs σ k xs) (hw : w < 2 ^ 31) : CalM E 1 yX4_risk cX4_risk 9 (some .int) [.ref (zA E k 0), .int (nI h), .int (nI g), .int (nI l), .int (nI w), .int (nI o)] σ (fun r σ' => r = some (.int (nI (rsk xs h g l (w % 8) o))) ∧ RuleIs σ' k xs ∧ FrG [k] σ σ') := by
  refine cal_of_go (own := RX4) rfl (by decide +kernel) (Nat.le_of_ble_eq_true rfl) ?_
  have hlen := hR.2.1
  obtain ⟨sf, hev, hsf⟩ := evL_dp (th := thg h g l (w % 8) o) (s := []) rfl hR.1
  obtain ⟨v, rfl⟩ : ∃ v, sf = [v] := by
    match sf, hsf with
    | [v], _ => exact ⟨v, rfl⟩
  have hrsk : rsk xs h g l (w % 8) o = clp v 999 := by unfold rsk; rw [hev]
  rw [hrsk]
  have loop : ∀ (rest : List Nat) (i : Nat) (s : List Int32) (τ : zT), i + rest.length = xs.length → (∀ j t, rest[j]? = some t → σ.2.1 k 1 (i + j) = ctok t ∧ tokOK t) → s.length ≤ i → evL (thg h g l (w % 8) o) rest s = some [v] → stk (τ.2.1 k 3) s → (∀ j, j < 5 → τ.2.1 k 4 j = thg h g l (w % 8) o j) → (FrG [k] σ τ ∧ τ.1 k = σ.1 k ∧ τ.2.1 k 1 = σ.2.1 k 1) → GoM E 1 RX4 cX4_risk 9 (some .int) (fun r σ' => r = some (.int (nI (clp v 999))) ∧ RuleIs σ' k xs ∧ FrG [k] σ σ') τ 46 [(0, .ref (zA E k 0)), (1, .int (nI h)), (2, .int (nI g)), (3, .int (nI l)), (4, .int (nI w)), (5, .int (nI o)), (6, .int (nI s.length)), (7, .int (nI i))] [] := by
    intro rest
    induction rest with
    | nil =>
      intro i s τ hil hxs hsl hev2 hst hth hF
      cases hev2
      simp only [List.length_nil, Nat.add_zero] at hil
      refine go_iload (pc := 46) dX4_risk_46 rfl ?_
      refine go_aload_n (i := 0) (pc := 48) dX4_risk_48 rfl rfl ?_
      refine go_geti fl_X4_27 (pc := 49) dX4_risk_49 (by first | rfl | (apply zL_fi <;> first | assumption | decide) | (apply zR_fi <;> first | assumption | decide)) ?_
      rw [hF.2.1, hR.2.2.1]
      refine go_icmp_ge 199 (pc := 52) dX4_risk_52 (by decide) (fun h52 => ?_) (fun h52 => ?_)
      · first | rw [nI_leI (by omega) (by omega)] at h52 | rw [zi_leN (by omega)] at h52 | rw [zi_Nle (by omega)] at h52 | rw [zi_le] at h52
        refine go_aload_n (i := 0) (pc := 199) dX4_risk_199 rfl rfl ?_
        refine go_getr2 fl_X4_18 (pc := 200) dX4_risk_200 (by first | rfl | (apply zL_ci <;> assumption) | (apply zR_ci <;> assumption)) (by first | rfl | (apply zL_in <;> first | assumption | decide) | (apply zR_in <;> first | assumption | decide)) (by first | rfl | (apply zL_fr0 <;> assumption) | (apply zL_fr1 <;> assumption) | (apply zR_fr0 <;> assumption) | (apply zR_fr1 <;> assumption) | (apply zR_fr2 <;> assumption) | (apply zR_fr3 <;> assumption)) ?_
        refine go_iconst (nI 0) (pc := 203) dX4_risk_203 (by decide) ?_
        refine go_iaload _ (pc := 204) dX4_risk_204 (by first | rfl | (apply zL_ar1 <;> assumption) | (apply zL_ar2 <;> assumption) | (apply zR_ar1 <;> assumption) | (apply zR_ar2 <;> assumption) | (apply zR_ar3 <;> assumption) | (apply zR_ar4 <;> assumption)) (by first | rfl | (apply zL_jn <;> first | assumption | decide) | (apply zR_jn <;> first | assumption | decide)) rfl (by first | assumption | omega) ?_
        rw [show τ.2.1 k 3 0 = v from hst.1]
        refine go_sipush (nI 999) (pc := 205) dX4_risk_205 (by decide) ?_
        refine go_callN (fun _ h => h.2.1) mt_X11_within (pc := 208) dX4_risk_208 (c_X11_within (by decide)) (by decide) (by decide) rfl rfl (Nat.le_of_ble_eq_true rfl) (fun r σ' hp => ?_)
        obtain ⟨rfl, hσ⟩ := hp
        rw [hσ]
        clear hσ σ'
        dsimp only [zRet]
        refine go_ireturn (pc := 211) dX4_risk_211 rfl ?_
        exact ⟨rfl, ⟨hR.1, hR.2.1, by rw [hF.2.1]; exact hR.2.2.1, fun j t hj => by rw [hF.2.2]; exact hR.2.2.2 j t hj⟩, hF.1⟩
      · first | rw [nI_leI (by omega) (by omega)] at h52 | rw [zi_leN (by omega)] at h52 | rw [zi_Nle (by omega)] at h52 | rw [zi_le] at h52
        omega
    | cons t rest ih =>
      intro i s τ hil hxs hsl hev2 hst hth hF
      have ht := hxs 0 t rfl
      simp only [Nat.add_zero] at ht
      have hil2 : i < xs.length := by simp only [List.length_cons] at hil; omega
      refine go_iload (pc := 46) dX4_risk_46 rfl ?_
      refine go_aload_n (i := 0) (pc := 48) dX4_risk_48 rfl rfl ?_
      refine go_geti fl_X4_27 (pc := 49) dX4_risk_49 (by first | rfl | (apply zL_fi <;> first | assumption | decide) | (apply zR_fi <;> first | assumption | decide)) ?_
      rw [hF.2.1, hR.2.2.1]
      refine go_icmp_ge 199 (pc := 52) dX4_risk_52 (by decide) (fun h52 => ?_) (fun h52 => ?_)
      · first | rw [nI_leI (by omega) (by omega)] at h52 | rw [zi_leN (by omega)] at h52 | rw [zi_Nle (by omega)] at h52 | rw [zi_le] at h52
        omega
      · first | rw [nI_leI (by omega) (by omega)] at h52 | rw [zi_leN (by omega)] at h52 | rw [zi_Nle (by omega)] at h52 | rw [zi_le] at h52
        refine go_iload (pc := 55) dX4_risk_55 rfl ?_
        refine go_bipush (nI 40) (pc := 57) dX4_risk_57 (by decide) ?_
        refine go_icmp_ge 199 (pc := 59) dX4_risk_59 (by decide) (fun h59 => ?_) (fun h59 => ?_)
        · first | rw [nI_leI (by omega) (by omega)] at h59 | rw [zi_leN (by omega)] at h59 | rw [zi_Nle (by omega)] at h59 | rw [zi_le] at h59
          omega
        · first | rw [nI_leI (by omega) (by omega)] at h59 | rw [zi_leN (by omega)] at h59 | rw [zi_Nle (by omega)] at h59 | rw [zi_le] at h59
          refine go_aload_n (i := 0) (pc := 62) dX4_risk_62 rfl rfl ?_
          refine go_getr2 fl_X4_9 (pc := 63) dX4_risk_63 (by first | rfl | (apply zL_ci <;> assumption) | (apply zR_ci <;> assumption)) (by first | rfl | (apply zL_in <;> first | assumption | decide) | (apply zR_in <;> first | assumption | decide)) (by first | rfl | (apply zL_fr0 <;> assumption) | (apply zL_fr1 <;> assumption) | (apply zR_fr0 <;> assumption) | (apply zR_fr1 <;> assumption) | (apply zR_fr2 <;> assumption) | (apply zR_fr3 <;> assumption)) ?_
          refine go_iload (pc := 66) dX4_risk_66 rfl ?_
          refine go_iaload _ (pc := 68) dX4_risk_68 (by first | rfl | (apply zL_ar1 <;> assumption) | (apply zL_ar2 <;> assumption) | (apply zR_ar1 <;> assumption) | (apply zR_ar2 <;> assumption) | (apply zR_ar3 <;> assumption) | (apply zR_ar4 <;> assumption)) (by first | rfl | (apply zL_jn <;> first | assumption | decide) | (apply zR_jn <;> first | assumption | decide)) rfl (by first | assumption | omega) ?_
          rw [hF.2.2, ht.1]
          refine go_istore (pc := 69) dX4_risk_69 (by decide) ?_
          unfold evL evT at hev2
          by_cases h1 : t < 1000
          · rw [if_pos h1] at hev2
            rw [ctok_num h1]
            refine go_iload (pc := 71) dX4_risk_71 rfl ?_
            refine go_bipush (-5) (pc := 73) dX4_risk_73 (by decide) ?_
            refine go_icmp_lt 119 (pc := 75) dX4_risk_75 (by decide) (fun q => absurd q (by rw [zi_lt, zm5, nI_toInt (by omega)]; omega)) (fun _ => ?_)
            refine go_iload (pc := 78) dX4_risk_78 rfl ?_
            refine go_bipush (nI 40) (pc := 80) dX4_risk_80 (by decide) ?_
            refine go_icmp_lt 87 (pc := 82) dX4_risk_82 (by decide) (fun _ => ?_) (fun q => absurd (nI_lt (show s.length < 40 by omega) (by decide)) q)
            refine go_aload_n (i := 0) (pc := 87) dX4_risk_87 rfl rfl ?_
            refine go_getr2 fl_X4_18 (pc := 88) dX4_risk_88 (by first | rfl | (apply zL_ci <;> assumption) | (apply zR_ci <;> assumption)) (by first | rfl | (apply zL_in <;> first | assumption | decide) | (apply zR_in <;> first | assumption | decide)) (by first | rfl | (apply zL_fr0 <;> assumption) | (apply zL_fr1 <;> assumption) | (apply zR_fr0 <;> assumption) | (apply zR_fr1 <;> assumption) | (apply zR_fr2 <;> assumption) | (apply zR_fr3 <;> assumption)) ?_
            refine go_iload (pc := 91) dX4_risk_91 rfl ?_
            refine go_iload (pc := 93) dX4_risk_93 rfl ?_
            refine go_if_lt 103 (pc := 95) dX4_risk_95 (by decide) (fun q => absurd q (nI_pos (by omega))) (fun _ => ?_)
            refine go_iload (pc := 98) dX4_risk_98 rfl ?_
            refine go_goto 112 (pc := 100) dX4_risk_100 (by decide) ?_
            refine go_iastore s.length (pc := 112) dX4_risk_112 (zR_ar3 hk) (zR_jn hk (by decide) rfl) rfl (by omega) ?_
            refine go_iincN (pc := 113) dX4_risk_113 rfl (by decide) ?_
            refine go_goto 193 (pc := 116) dX4_risk_116 (by decide) ?_
            refine go_iincN (pc := 193) dX4_risk_193 rfl (by decide) ?_
            refine go_goto 46 (pc := 196) dX4_risk_196 (by decide) ?_
            refine go_drop [0, 1, 2, 3, 4, 5, 6, 7] rfl ?_
            refine ih (i + 1) (nI t :: s) (_) (by simp only [List.length_cons] at hil; omega) (fun j t2 hj => by rw [show i + 1 + j = i + (j + 1) by omega]; exact hxs (j + 1) t2 (by simpa using hj)) (by simp only [List.length_cons] at hsl ⊢; omega) hev2 ?_ (fun j hj => by simpa [uA_2] using hth j hj) ⟨hF.1.uA (by simp), by rw [uA_1]; exact hF.2.1, by rw [uA_2, if_neg (by simp)]; exact hF.2.2⟩
            rw [uA_s]
            exact stk_push hst
          · rw [if_neg h1] at hev2
            by_cases h2 : t < 2000
            · rw [if_pos h2] at hev2
              have h3 : 1000 ≤ t := by omega
              have h4 : t < 1005 := by have := ht.2; unfold tokOK at this; omega
              refine go_iload (pc := 71) dX4_risk_71 rfl ?_
              refine go_bipush (-5) (pc := 73) dX4_risk_73 (by decide) ?_
              refine go_icmp_lt 119 (pc := 75) dX4_risk_75 (by decide) (fun q => absurd q (by rw [zi_lt, zm5, ctok_thing h3 h4]; omega)) (fun _ => ?_)
              refine go_iload (pc := 78) dX4_risk_78 rfl ?_
              refine go_bipush (nI 40) (pc := 80) dX4_risk_80 (by decide) ?_
              refine go_icmp_lt 87 (pc := 82) dX4_risk_82 (by decide) (fun _ => ?_) (fun q => absurd (nI_lt (show s.length < 40 by omega) (by decide)) q)
              refine go_aload_n (i := 0) (pc := 87) dX4_risk_87 rfl rfl ?_
              refine go_getr2 fl_X4_18 (pc := 88) dX4_risk_88 (by first | rfl | (apply zL_ci <;> assumption) | (apply zR_ci <;> assumption)) (by first | rfl | (apply zL_in <;> first | assumption | decide) | (apply zR_in <;> first | assumption | decide)) (by first | rfl | (apply zL_fr0 <;> assumption) | (apply zL_fr1 <;> assumption) | (apply zR_fr0 <;> assumption) | (apply zR_fr1 <;> assumption) | (apply zR_fr2 <;> assumption) | (apply zR_fr3 <;> assumption)) ?_
              refine go_iload (pc := 91) dX4_risk_91 rfl ?_
              refine go_iload (pc := 93) dX4_risk_93 rfl ?_
              refine go_if_lt 103 (pc := 95) dX4_risk_95 (by decide) (fun _ => ?_) (fun q => absurd (by rw [zi_lt0, ctok_thing h3 h4]; omega) q)
              refine go_aload_n (i := 0) (pc := 103) dX4_risk_103 rfl rfl ?_
              refine go_getr2 fl_X4_21 (pc := 104) dX4_risk_104 (by first | rfl | (apply zL_ci <;> assumption) | (apply zR_ci <;> assumption)) (by first | rfl | (apply zL_in <;> first | assumption | decide) | (apply zR_in <;> first | assumption | decide)) (by first | rfl | (apply zL_fr0 <;> assumption) | (apply zL_fr1 <;> assumption) | (apply zR_fr0 <;> assumption) | (apply zR_fr1 <;> assumption) | (apply zR_fr2 <;> assumption) | (apply zR_fr3 <;> assumption)) ?_
              refine go_iconst (-1) (pc := 107) dX4_risk_107 (by decide) ?_
              refine go_iload (pc := 108) dX4_risk_108 rfl ?_
              refine go_isub (pc := 110) dX4_risk_110 ?_
              rw [ctok_thing2 h3 h4]
              refine go_iaload (t - 1000) (pc := 111) dX4_risk_111 (zR_ar4 hk) (zR_jn hk (by decide) rfl) rfl (by omega) ?_
              rw [hth (t - 1000) (by omega)]
              refine go_iastore s.length (pc := 112) dX4_risk_112 (zR_ar3 hk) (zR_jn hk (by decide) rfl) rfl (by omega) ?_
              refine go_iincN (pc := 113) dX4_risk_113 rfl (by decide) ?_
              refine go_goto 193 (pc := 116) dX4_risk_116 (by decide) ?_
              refine go_iincN (pc := 193) dX4_risk_193 rfl (by decide) ?_
              refine go_goto 46 (pc := 196) dX4_risk_196 (by decide) ?_
              refine go_drop [0, 1, 2, 3, 4, 5, 6, 7] rfl ?_
              refine ih (i + 1) (thg h g l (w % 8) o (t - 1000) :: s) (_) (by simp only [List.length_cons] at hil; omega) (fun j t2 hj => by rw [show i + 1 + j = i + (j + 1) by omega]; exact hxs (j + 1) t2 (by simpa using hj)) (by simp only [List.length_cons] at hsl ⊢; omega) hev2 ?_ (fun j hj => by simpa [uA_2] using hth j hj) ⟨hF.1.uA (by simp), by rw [uA_1]; exact hF.2.1, by rw [uA_2, if_neg (by simp)]; exact hF.2.2⟩
              rw [uA_s]
              exact stk_push hst
            · rw [if_neg h2] at hev2
              by_cases h7 : t = 3000
              · rw [if_pos h7] at hev2
                rw [show ctok t = -6 by rw [h7]; decide]
                cases s with
                | nil => cases hev2
                | cons x s =>
                  refine go_iload (pc := 71) dX4_risk_71 rfl ?_
                  refine go_bipush (-5) (pc := 73) dX4_risk_73 (by decide) ?_
                  refine go_icmp_lt 119 (pc := 75) dX4_risk_75 (by decide) (fun _ => ?_) (fun q => absurd (by decide) q)
                  refine go_iload (pc := 119) dX4_risk_119 rfl ?_
                  refine go_bipush (-6) (pc := 121) dX4_risk_121 (by decide) ?_
                  refine go_icmp_ne 154 (pc := 123) dX4_risk_123 (by decide) (fun q => absurd rfl q) (fun _ => ?_)
                  refine go_iload (pc := 126) dX4_risk_126 rfl ?_
                  refine go_iconst (nI 1) (pc := 128) dX4_risk_128 (by decide) ?_
                  refine go_icmp_lt 154 (pc := 129) dX4_risk_129 (by decide) (fun q => absurd q (nI_nlt (by simp) (by simp only [List.length_cons] at hsl ⊢; omega))) (fun _ => ?_)
                  refine go_aload_n (i := 0) (pc := 132) dX4_risk_132 rfl rfl ?_
                  refine go_getr2 fl_X4_18 (pc := 133) dX4_risk_133 (by first | rfl | (apply zL_ci <;> assumption) | (apply zR_ci <;> assumption)) (by first | rfl | (apply zL_in <;> first | assumption | decide) | (apply zR_in <;> first | assumption | decide)) (by first | rfl | (apply zL_fr0 <;> assumption) | (apply zL_fr1 <;> assumption) | (apply zR_fr0 <;> assumption) | (apply zR_fr1 <;> assumption) | (apply zR_fr2 <;> assumption) | (apply zR_fr3 <;> assumption)) ?_
                  refine go_iload (pc := 136) dX4_risk_136 rfl ?_
                  refine go_iconst (nI 1) (pc := 138) dX4_risk_138 (by decide) ?_
                  refine go_isubN (pc := 139) dX4_risk_139 (by simp) ?_
                  rw [show (x :: s).length - 1 = s.length from rfl]
                  refine go_aload_n (i := 0) (pc := 140) dX4_risk_140 rfl rfl ?_
                  refine go_getr2 fl_X4_18 (pc := 141) dX4_risk_141 (by first | rfl | (apply zL_ci <;> assumption) | (apply zR_ci <;> assumption)) (by first | rfl | (apply zL_in <;> first | assumption | decide) | (apply zR_in <;> first | assumption | decide)) (by first | rfl | (apply zL_fr0 <;> assumption) | (apply zL_fr1 <;> assumption) | (apply zR_fr0 <;> assumption) | (apply zR_fr1 <;> assumption) | (apply zR_fr2 <;> assumption) | (apply zR_fr3 <;> assumption)) ?_
                  refine go_iload (pc := 144) dX4_risk_144 rfl ?_
                  refine go_iconst (nI 1) (pc := 146) dX4_risk_146 (by decide) ?_
                  refine go_isubN (pc := 147) dX4_risk_147 (by simp) ?_
                  rw [show (x :: s).length - 1 = s.length from rfl]
                  refine go_iaload s.length (pc := 148) dX4_risk_148 (zR_ar3 hk) (zR_jn hk (by decide) rfl) rfl (by simp only [List.length_cons] at hsl; omega) ?_
                  rw [hst.1]
                  refine go_ineg (pc := 149) dX4_risk_149 ?_
                  refine go_iastore s.length (pc := 150) dX4_risk_150 (zR_ar3 hk) (zR_jn hk (by decide) rfl) rfl (by simp only [List.length_cons] at hsl; omega) ?_
                  refine go_goto 193 (pc := 151) dX4_risk_151 (by decide) ?_
                  refine go_iincN (pc := 193) dX4_risk_193 rfl (by decide) ?_
                  refine go_goto 46 (pc := 196) dX4_risk_196 (by decide) ?_
                  refine go_drop [0, 1, 2, 3, 4, 5, 6, 7] rfl ?_
                  refine ih (i + 1) (-x :: s) (_) (by simp only [List.length_cons] at hil; omega) (fun j t2 hj => by rw [show i + 1 + j = i + (j + 1) by omega]; exact hxs (j + 1) t2 (by simpa using hj)) (by simp only [List.length_cons] at hsl ⊢; omega) hev2 ?_ (fun j hj => by simpa [uA_2] using hth j hj) ⟨hF.1.uA (by simp), by rw [uA_1]; exact hF.2.1, by rw [uA_2, if_neg (by simp)]; exact hF.2.2⟩
                  rw [uA_s]
                  exact stk_push hst.2
              · rw [if_neg h7] at hev2
                have h5 : 2000 ≤ t := by omega
                have h6 : t < 2007 := by have := ht.2; unfold tokOK at this; omega
                have ha := ctok_act h5 h6
                match s, hsl, hev2, hst with
                | [], _, hev2, _ => cases hev2
                | [x], _, hev2, _ => cases hev2
                | y :: x :: s, hsl, hev2, hst =>
                  refine go_iload (pc := 71) dX4_risk_71 rfl ?_
                  refine go_bipush (-5) (pc := 73) dX4_risk_73 (by decide) ?_
                  refine go_icmp_lt 119 (pc := 75) dX4_risk_75 (by decide) (fun _ => ?_) (fun q => absurd (by rw [zi_lt, zm5]; omega) q)
                  refine go_iload (pc := 119) dX4_risk_119 rfl ?_
                  refine go_bipush (-6) (pc := 121) dX4_risk_121 (by decide) ?_
                  refine go_icmp_ne 154 (pc := 123) dX4_risk_123 (by decide) (fun _ => ?_) (fun q => by rw [q, zm6] at ha; omega)
                  refine go_iload (pc := 154) dX4_risk_154 rfl ?_
                  refine go_iconst (nI 2) (pc := 156) dX4_risk_156 (by decide) ?_
                  refine go_icmp_lt 193 (pc := 157) dX4_risk_157 (by decide) (fun q => absurd q (nI_nlt (by simp) (by simp only [List.length_cons] at hsl ⊢; omega))) (fun _ => ?_)
                  refine go_iinc (nI (x :: s).length) (pc := 160) dX4_risk_160 rfl (pk_m1 _) (by decide) ?_
                  refine go_aload_n (i := 0) (pc := 163) dX4_risk_163 rfl rfl ?_
                  refine go_getr2 fl_X4_18 (pc := 164) dX4_risk_164 (by first | rfl | (apply zL_ci <;> assumption) | (apply zR_ci <;> assumption)) (by first | rfl | (apply zL_in <;> first | assumption | decide) | (apply zR_in <;> first | assumption | decide)) (by first | rfl | (apply zL_fr0 <;> assumption) | (apply zL_fr1 <;> assumption) | (apply zR_fr0 <;> assumption) | (apply zR_fr1 <;> assumption) | (apply zR_fr2 <;> assumption) | (apply zR_fr3 <;> assumption)) ?_
                  refine go_iload (pc := 167) dX4_risk_167 rfl ?_
                  refine go_iconst (nI 1) (pc := 169) dX4_risk_169 (by decide) ?_
                  refine go_isubN (pc := 170) dX4_risk_170 (by simp) ?_
                  rw [show (x :: s).length - 1 = s.length from rfl]
                  refine go_iload (pc := 171) dX4_risk_171 rfl ?_
                  refine go_aload_n (i := 0) (pc := 173) dX4_risk_173 rfl rfl ?_
                  refine go_getr2 fl_X4_18 (pc := 174) dX4_risk_174 (by first | rfl | (apply zL_ci <;> assumption) | (apply zR_ci <;> assumption)) (by first | rfl | (apply zL_in <;> first | assumption | decide) | (apply zR_in <;> first | assumption | decide)) (by first | rfl | (apply zL_fr0 <;> assumption) | (apply zL_fr1 <;> assumption) | (apply zR_fr0 <;> assumption) | (apply zR_fr1 <;> assumption) | (apply zR_fr2 <;> assumption) | (apply zR_fr3 <;> assumption)) ?_
                  refine go_iload (pc := 177) dX4_risk_177 rfl ?_
                  refine go_iconst (nI 1) (pc := 179) dX4_risk_179 (by decide) ?_
                  refine go_isubN (pc := 180) dX4_risk_180 (by simp) ?_
                  rw [show (x :: s).length - 1 = s.length from rfl]
                  refine go_iaload s.length (pc := 181) dX4_risk_181 (zR_ar3 hk) (zR_jn hk (by decide) rfl) rfl (by simp only [List.length_cons] at hsl; omega) ?_
                  rw [hst.2.1]
                  refine go_aload_n (i := 0) (pc := 182) dX4_risk_182 rfl rfl ?_
                  refine go_getr2 fl_X4_18 (pc := 183) dX4_risk_183 (by first | rfl | (apply zL_ci <;> assumption) | (apply zR_ci <;> assumption)) (by first | rfl | (apply zL_in <;> first | assumption | decide) | (apply zR_in <;> first | assumption | decide)) (by first | rfl | (apply zL_fr0 <;> assumption) | (apply zL_fr1 <;> assumption) | (apply zR_fr0 <;> assumption) | (apply zR_fr1 <;> assumption) | (apply zR_fr2 <;> assumption) | (apply zR_fr3 <;> assumption)) ?_
                  refine go_iload (pc := 186) dX4_risk_186 rfl ?_
                  refine go_iaload (x :: s).length (pc := 188) dX4_risk_188 (zR_ar3 hk) (zR_jn hk (by decide) rfl) rfl (by simp only [List.length_cons] at hsl ⊢; omega) ?_
                  rw [hst.1]
                  refine go_callS ml_X4_99 mt_X4_apply (pc := 189) dX4_risk_189 (c_X4_apply h5 h6) (by decide) (by decide) rfl rfl (Nat.le_of_ble_eq_true rfl) (fun r σ' hp => ?_)
                  obtain ⟨rfl, hσ⟩ := hp
                  rw [hσ]
                  clear hσ σ'
                  dsimp only [zRet]
                  refine go_iastore s.length (pc := 192) dX4_risk_192 (zR_ar3 hk) (zR_jn hk (by decide) rfl) rfl (by simp only [List.length_cons] at hsl; omega) ?_
                  refine go_iincN (pc := 193) dX4_risk_193 rfl (by decide) ?_
                  refine go_goto 46 (pc := 196) dX4_risk_196 (by decide) ?_
                  refine go_drop [0, 1, 2, 3, 4, 5, 6, 7] rfl ?_
                  refine ih (i + 1) (wkd (t - 2000) x y :: s) (_) (by simp only [List.length_cons] at hil; omega) (fun j t2 hj => by rw [show i + 1 + j = i + (j + 1) by omega]; exact hxs (j + 1) t2 (by simpa using hj)) (by simp only [List.length_cons] at hsl ⊢; omega) hev2 ?_ (fun j hj => by simpa [uA_2] using hth j hj) ⟨hF.1.uA (by simp), by rw [uA_1]; exact hF.2.1, by rw [uA_2, if_neg (by simp)]; exact hF.2.2⟩
                  rw [uA_s]
                  exact stk_push hst.2.2
  refine go_aload_n (i := 0) (pc := 0) dX4_risk_0 rfl rfl ?_
  refine go_getr2 fl_X4_21 (pc := 1) dX4_risk_1 (by first | rfl | (apply zL_ci <;> assumption) | (apply zR_ci <;> assumption)) (by first | rfl | (apply zL_in <;> first | assumption | decide) | (apply zR_in <;> first | assumption | decide)) (by first | rfl | (apply zL_fr0 <;> assumption) | (apply zL_fr1 <;> assumption) | (apply zR_fr0 <;> assumption) | (apply zR_fr1 <;> assumption) | (apply zR_fr2 <;> assumption) | (apply zR_fr3 <;> assumption)) ?_
  refine go_iconst (nI 0) (pc := 4) dX4_risk_4 (by decide) ?_
  refine go_iload_n (i := 1) (pc := 5) dX4_risk_5 rfl rfl ?_
  refine go_iastore 0 (pc := 6) dX4_risk_6 (zR_ar4 hk) (zR_jn hk (by decide) rfl) rfl (by decide) ?_
  refine go_aload_n (i := 0) (pc := 7) dX4_risk_7 rfl rfl ?_
  refine go_getr2 fl_X4_21 (pc := 8) dX4_risk_8 (by first | rfl | (apply zL_ci <;> assumption) | (apply zR_ci <;> assumption)) (by first | rfl | (apply zL_in <;> first | assumption | decide) | (apply zR_in <;> first | assumption | decide)) (by first | rfl | (apply zL_fr0 <;> assumption) | (apply zL_fr1 <;> assumption) | (apply zR_fr0 <;> assumption) | (apply zR_fr1 <;> assumption) | (apply zR_fr2 <;> assumption) | (apply zR_fr3 <;> assumption)) ?_
  refine go_iconst (nI 1) (pc := 11) dX4_risk_11 (by decide) ?_
  refine go_iload_n (i := 2) (pc := 12) dX4_risk_12 rfl rfl ?_
  refine go_iastore 1 (pc := 13) dX4_risk_13 (zR_ar4 hk) (zR_jn hk (by decide) rfl) rfl (by decide) ?_
  refine go_aload_n (i := 0) (pc := 14) dX4_risk_14 rfl rfl ?_
  refine go_getr2 fl_X4_21 (pc := 15) dX4_risk_15 (by first | rfl | (apply zL_ci <;> assumption) | (apply zR_ci <;> assumption)) (by first | rfl | (apply zL_in <;> first | assumption | decide) | (apply zR_in <;> first | assumption | decide)) (by first | rfl | (apply zL_fr0 <;> assumption) | (apply zL_fr1 <;> assumption) | (apply zR_fr0 <;> assumption) | (apply zR_fr1 <;> assumption) | (apply zR_fr2 <;> assumption) | (apply zR_fr3 <;> assumption)) ?_
  refine go_iconst (nI 2) (pc := 18) dX4_risk_18 (by decide) ?_
  refine go_iload_n (i := 3) (pc := 19) dX4_risk_19 rfl rfl ?_
  refine go_iastore 2 (pc := 20) dX4_risk_20 (zR_ar4 hk) (zR_jn hk (by decide) rfl) rfl (by decide) ?_
  refine go_aload_n (i := 0) (pc := 21) dX4_risk_21 rfl rfl ?_
  refine go_getr2 fl_X4_21 (pc := 22) dX4_risk_22 (by first | rfl | (apply zL_ci <;> assumption) | (apply zR_ci <;> assumption)) (by first | rfl | (apply zL_in <;> first | assumption | decide) | (apply zR_in <;> first | assumption | decide)) (by first | rfl | (apply zL_fr0 <;> assumption) | (apply zL_fr1 <;> assumption) | (apply zR_fr0 <;> assumption) | (apply zR_fr1 <;> assumption) | (apply zR_fr2 <;> assumption) | (apply zR_fr3 <;> assumption)) ?_
  refine go_iconst (nI 3) (pc := 25) dX4_risk_25 (by decide) ?_
  refine go_iload (pc := 26) dX4_risk_26 rfl ?_
  refine go_bipush (nI 7) (pc := 28) dX4_risk_28 (by decide) ?_
  refine go_iand (pc := 30) dX4_risk_30 ?_
  rw [pk_andN (by omega) 3 (by decide)]
  refine go_iastore 3 (pc := 31) dX4_risk_31 (zR_ar4 hk) (zR_jn hk (by decide) rfl) rfl (by decide) ?_
  refine go_aload_n (i := 0) (pc := 32) dX4_risk_32 rfl rfl ?_
  refine go_getr2 fl_X4_21 (pc := 33) dX4_risk_33 (by first | rfl | (apply zL_ci <;> assumption) | (apply zR_ci <;> assumption)) (by first | rfl | (apply zL_in <;> first | assumption | decide) | (apply zR_in <;> first | assumption | decide)) (by first | rfl | (apply zL_fr0 <;> assumption) | (apply zL_fr1 <;> assumption) | (apply zR_fr0 <;> assumption) | (apply zR_fr1 <;> assumption) | (apply zR_fr2 <;> assumption) | (apply zR_fr3 <;> assumption)) ?_
  refine go_iconst (nI 4) (pc := 36) dX4_risk_36 (by decide) ?_
  refine go_iload (pc := 37) dX4_risk_37 rfl ?_
  refine go_iastore 4 (pc := 39) dX4_risk_39 (zR_ar4 hk) (zR_jn hk (by decide) rfl) rfl (by decide) ?_
  refine go_iconst (nI 0) (pc := 40) dX4_risk_40 (by decide) ?_
  refine go_istore (pc := 41) dX4_risk_41 (by decide) ?_
  refine go_iconst (nI 0) (pc := 43) dX4_risk_43 (by decide) ?_
  refine go_istore (pc := 44) dX4_risk_44 (by decide) ?_
  refine loop xs 0 [] _ (by omega) (fun j t hj => by rw [Nat.zero_add]; exact hR.2.2.2 j t hj) (Nat.le_refl 0) hev trivial (fun j hj => ?_) ⟨((((FrG.rf.uA (by simp)).uA (by simp)).uA (by simp)).uA (by simp)).uA (by simp), rfl, by simp [uA_2]⟩
  have : j = 0 ∨ j = 1 ∨ j = 2 ∨ j = 3 ∨ j = 4 := by omega
  rcases this with rfl | rfl | rfl | rfl | rfl <;> simp [uA_2, upd_at, thg]

