theorem dAct_ok {V : zV} {f ρ : Nat → Nat} {p : Nat} (hV : VOK V) (hok : RowOK (vN V) ρ) (h1 : ρ 27 + 9 < 2 ^ 28) (h2 : ρ 28 + 648 < 2 ^ 28) (hd : f p = 119 → f (p + 1) ≤ 57) : RowOK (vN V) (dAct V f ρ p).2 := by
  unfold dAct
  by_cases hw : f p = 119
  · rw [if_pos hw]
    have := hd hw
    exact (wks_ok hV hok (f (p + 1) - 48) (by omega) (by omega)).1
  · rw [if_neg hw]
    split
    · exact aGuard_ok hok
    · split
      · exact aPlant_ok hok
      · split
        · exact aGate_ok hok
        · exact aPrice_ok hok
theorem act_d {f : Nat → Nat} {lim p : Nat} (h : (aOne f lim p).1 = true) : (f p = 119 → 48 ≤ f (p + 1) ∧ f (p + 1) ≤ 57) ∧ (f p = 119 ∨ f p = 103 ∨ f p = 109 ∨ f p = 112 ∨ f p = 99 ∨ f p = 100) := by
  obtain ⟨-, -, h1, h2⟩ := aOne_t h
  have hv : aLen (f p) = 2 ∨ aLen (f p) = 3 := by
    rcases h2 with q | q
    · exact Or.inl q
    · exact Or.inr q.1
  exact ⟨fun e => (fAct_d h1 (by omega)).1, aLen_v hv⟩
def lPos (f : Nat → Nat) : Nat → Nat
  | 0 => 0
  | j + 1 => lPos f j + aLen (f (lPos f j))

theorem c_X12_does {E : zE} {σ : zT} {V : zV} {f ρ : Nat → Nat} {k p lim : Nat} (hE : EnvR σ V) (hw : RwIs σ 7 ρ) (hok : RowOK (vN V) ρ) (hA : ActIs σ f k p) (ha : (aOne f lim p).1 = true) (hk : k < 60) (h27 : ρ 27 + 9 < 2 ^ 28) (h28 : ρ 28 + 648 < 2 ^ 28) (hfb : f (p + 1) < 256) : CalM E 10 yX12_does cX12_does 3 (some .boolean) [.ref (zA E 33 0), .int (nI k)] σ (fun r σ' => r = some (.int (zb (decide (0 ≤ (dAct V f ρ p).1.toInt)))) ∧ RwIs σ' 7 (dAct V f ρ p).2 ∧ Fr9 [27, 28] [13, 14, 16, 7] σ σ') := by
  refine cal_of_go (own := RX12) rfl (by decide +kernel) (Nat.le_of_ble_eq_true rfl) ?_
  have had := act_d ha
  rcases had.2 with hfp | hfp | hfp | hfp | hfp | hfp
  · skip
    have hd9 := had.1 hfp
    have h17 : σ.2.1 33 17 k = nI 0 := by rw [hA.1, hfp]; rfl
    have h18 : σ.2.1 33 18 k = nI (f (p + 1) - 48) := by rw [hA.2.1]; unfold aV1; rw [hfp]; rfl
    rw [dAct_w hfp]
    refine go_aload_n (i := 0) (pc := 0) dX12_does_0 rfl rfl ?_
    refine go_getr2 fl_X12_69 (pc := 1) dX12_does_1 (by rfl) (by rfl) (by rfl) ?_
    refine go_iload_n (i := 1) (pc := 4) dX12_does_4 rfl rfl ?_
    refine go_iaload _ (pc := 5) dX12_does_5 (by first | rfl | (apply zM_ar <;> assumption)) (by first | rfl | (apply zM_jn <;> assumption)) rfl (by first | assumption | omega) ?_
    rw [h18]
    refine go_istore_n (i := 2) (pc := 6) dX12_does_6 rfl (by decide) ?_
    refine go_aload_n (i := 0) (pc := 7) dX12_does_7 rfl rfl ?_
    refine go_getr2 fl_X12_66 (pc := 8) dX12_does_8 (by rfl) (by rfl) (by rfl) ?_
    refine go_iload_n (i := 1) (pc := 11) dX12_does_11 rfl rfl ?_
    refine go_iaload _ (pc := 12) dX12_does_12 (by first | rfl | (apply zM_ar <;> assumption)) (by first | rfl | (apply zM_jn <;> assumption)) rfl (by first | assumption | omega) ?_
    rw [h17]
    refine go_tableIn 44 (off := 31) (pc := 13) dX12_does_13 (by decide) (by decide) (by decide) (by decide) ?_
    refine go_aload_n (i := 0) (pc := 44) dX12_does_44 rfl rfl ?_
    refine go_aload_n (i := 0) (pc := 45) dX12_does_45 rfl rfl ?_
    refine go_getr2 fl_X12_36 (pc := 46) dX12_does_46 (by rfl) (by rfl) (by rfl) ?_
    refine go_iload_n (i := 2) (pc := 49) dX12_does_49 rfl rfl ?_
    refine go_callV ml_X12_330 mt_X12_goesOn (pc := 50) dX12_does_50 (c_X12_goesOn (j := 7) hE hw hok rfl (by omega) (by omega)) (by rfl) rfl (by rfl) (by decide) (by decide) rfl rfl (Nat.le_of_ble_eq_true rfl) (fun r σ' hp => ?_)
    obtain ⟨rfl, hR, hFd⟩ := hp
    dsimp only [zRet]
    have hF := hFd.mono (fs2 := [27, 28]) (js2 := [13, 14, 16, 7]) (by simp) (by simp)
    refine go_pop (pc := 53) dX12_does_53 rfl ?_
    refine go_iconst (nI 1) (pc := 54) dX12_does_54 (by decide) ?_
    refine go_zreturn (pc := 55) dX12_does_55 rfl (by first | rfl | (apply zb_nar)) ?_
    refine ⟨zr_t ?_, hR, hF⟩
    try dsimp only
    rw [nI_toInt (by have := (wks_ok (hE.vok hok) hok (f (p + 1) - 48) (by omega) (by omega)).2.2.2.1; omega)]
    omega
  · skip
    have h17 : σ.2.1 33 17 k = nI 3 := by rw [hA.1, hfp]; rfl
    have h18 : σ.2.1 33 18 k = nI (f (p + 1) - 97) := by rw [hA.2.1]; unfold aV1; rw [hfp]; rfl
    rw [dAct_g hfp]
    refine go_aload_n (i := 0) (pc := 0) dX12_does_0 rfl rfl ?_
    refine go_getr2 fl_X12_69 (pc := 1) dX12_does_1 (by rfl) (by rfl) (by rfl) ?_
    refine go_iload_n (i := 1) (pc := 4) dX12_does_4 rfl rfl ?_
    refine go_iaload _ (pc := 5) dX12_does_5 (by first | rfl | (apply zM_ar <;> assumption)) (by first | rfl | (apply zM_jn <;> assumption)) rfl (by first | assumption | omega) ?_
    rw [h18]
    refine go_istore_n (i := 2) (pc := 6) dX12_does_6 rfl (by decide) ?_
    refine go_aload_n (i := 0) (pc := 7) dX12_does_7 rfl rfl ?_
    refine go_getr2 fl_X12_66 (pc := 8) dX12_does_8 (by rfl) (by rfl) (by rfl) ?_
    refine go_iload_n (i := 1) (pc := 11) dX12_does_11 rfl rfl ?_
    refine go_iaload _ (pc := 12) dX12_does_12 (by first | rfl | (apply zM_ar <;> assumption)) (by first | rfl | (apply zM_jn <;> assumption)) rfl (by first | assumption | omega) ?_
    rw [h17]
    refine go_tableIn 96 (off := 83) (pc := 13) dX12_does_13 (by decide) (by decide) (by decide) (by decide) ?_
    refine go_aload_n (i := 0) (pc := 96) dX12_does_96 rfl rfl ?_
    refine go_iload_n (i := 2) (pc := 97) dX12_does_97 rfl rfl ?_
    refine go_callV ml_X12_325 mt_X12_gates (pc := 98) dX12_does_98 (c_X12_gates hE.2.2.2 hw hok) (by rfl) rfl (by rfl) (by decide) (by decide) rfl rfl (Nat.le_of_ble_eq_true rfl) (fun r σ' hp => ?_)
    obtain ⟨rfl, hR, hFd⟩ := hp
    dsimp only [zRet]
    have hF := hFd.mono (fs2 := [27, 28]) (js2 := [13, 14, 16, 7]) (by simp) (by simp)
    refine go_if_lt 108 (pc := 101) dX12_does_101 (by decide) (fun h101 => ?_) (fun h101 => ?_)
    · first | rw [zb_0d] at h101 | rw [zn_lt0 (by omega)] at h101 | rw [zi_lt0] at h101
      refine go_iconst (nI 0) (pc := 108) dX12_does_108 (by decide) ?_
      refine go_zreturn (pc := 109) dX12_does_109 rfl (by first | rfl | (apply zb_nar)) ?_
      first | exact ⟨zr_t (by omega), hR, hF⟩ | exact ⟨zr_f (by omega), hR, hF⟩
    · first | rw [zb_0d] at h101 | rw [zn_lt0 (by omega)] at h101 | rw [zi_lt0] at h101
      refine go_iconst (nI 1) (pc := 104) dX12_does_104 (by decide) ?_
      refine go_goto 109 (pc := 105) dX12_does_105 (by decide) ?_
      refine go_zreturn (pc := 109) dX12_does_109 rfl (by first | rfl | (apply zb_nar)) ?_
      first | exact ⟨zr_t (by omega), hR, hF⟩ | exact ⟨zr_f (by omega), hR, hF⟩
  · skip
    have h17 : σ.2.1 33 17 k = nI 1 := by rw [hA.1, hfp]; rfl
    have h18 : σ.2.1 33 18 k = nI (f (p + 1) - 97) := by rw [hA.2.1]; unfold aV1; rw [hfp]; rfl
    rw [dAct_m hfp]
    have h19 := hA.2.2 (by omega)
    refine go_aload_n (i := 0) (pc := 0) dX12_does_0 rfl rfl ?_
    refine go_getr2 fl_X12_69 (pc := 1) dX12_does_1 (by rfl) (by rfl) (by rfl) ?_
    refine go_iload_n (i := 1) (pc := 4) dX12_does_4 rfl rfl ?_
    refine go_iaload _ (pc := 5) dX12_does_5 (by first | rfl | (apply zM_ar <;> assumption)) (by first | rfl | (apply zM_jn <;> assumption)) rfl (by first | assumption | omega) ?_
    rw [h18]
    refine go_istore_n (i := 2) (pc := 6) dX12_does_6 rfl (by decide) ?_
    refine go_aload_n (i := 0) (pc := 7) dX12_does_7 rfl rfl ?_
    refine go_getr2 fl_X12_66 (pc := 8) dX12_does_8 (by rfl) (by rfl) (by rfl) ?_
    refine go_iload_n (i := 1) (pc := 11) dX12_does_11 rfl rfl ?_
    refine go_iaload _ (pc := 12) dX12_does_12 (by first | rfl | (apply zM_ar <;> assumption)) (by first | rfl | (apply zM_jn <;> assumption)) rfl (by first | assumption | omega) ?_
    rw [h17]
    refine go_tableIn 56 (off := 43) (pc := 13) dX12_does_13 (by decide) (by decide) (by decide) (by decide) ?_
    refine go_aload_n (i := 0) (pc := 56) dX12_does_56 rfl rfl ?_
    refine go_iload_n (i := 2) (pc := 57) dX12_does_57 rfl rfl ?_
    refine go_aload_n (i := 0) (pc := 58) dX12_does_58 rfl rfl ?_
    refine go_getr2 fl_X12_72 (pc := 59) dX12_does_59 (by rfl) (by rfl) (by rfl) ?_
    refine go_iload_n (i := 1) (pc := 62) dX12_does_62 rfl rfl ?_
    refine go_iaload _ (pc := 63) dX12_does_63 (by first | rfl | (apply zM_ar <;> assumption)) (by first | rfl | (apply zM_jn <;> assumption)) rfl (by first | assumption | omega) ?_
    rw [h19]
    refine go_callV ml_X12_319 mt_X12_guards (pc := 64) dX12_does_64 (c_X12_guards hE.2.2.2 hw hok) (by rfl) rfl (by rfl) (by decide) (by decide) rfl rfl (Nat.le_of_ble_eq_true rfl) (fun r σ' hp => ?_)
    obtain ⟨rfl, hR, hFd⟩ := hp
    dsimp only [zRet]
    have hF := hFd.mono (fs2 := [27, 28]) (js2 := [13, 14, 16, 7]) (by simp) (by simp)
    refine go_if_lt 74 (pc := 67) dX12_does_67 (by decide) (fun h67 => ?_) (fun h67 => ?_)
    · first | rw [zb_0d] at h67 | rw [zn_lt0 (by omega)] at h67 | rw [zi_lt0] at h67
      refine go_iconst (nI 0) (pc := 74) dX12_does_74 (by decide) ?_
      refine go_zreturn (pc := 75) dX12_does_75 rfl (by first | rfl | (apply zb_nar)) ?_
      first | exact ⟨zr_t (by omega), hR, hF⟩ | exact ⟨zr_f (by omega), hR, hF⟩
    · first | rw [zb_0d] at h67 | rw [zn_lt0 (by omega)] at h67 | rw [zi_lt0] at h67
      refine go_iconst (nI 1) (pc := 70) dX12_does_70 (by decide) ?_
      refine go_goto 75 (pc := 71) dX12_does_71 (by decide) ?_
      refine go_zreturn (pc := 75) dX12_does_75 rfl (by first | rfl | (apply zb_nar)) ?_
      first | exact ⟨zr_t (by omega), hR, hF⟩ | exact ⟨zr_f (by omega), hR, hF⟩
  · skip
    have h17 : σ.2.1 33 17 k = nI 2 := by rw [hA.1, hfp]; rfl
    have h18 : σ.2.1 33 18 k = nI (f (p + 1) - 97) := by rw [hA.2.1]; unfold aV1; rw [hfp]; rfl
    rw [dAct_p hfp]
    have h19 := hA.2.2 (by omega)
    refine go_aload_n (i := 0) (pc := 0) dX12_does_0 rfl rfl ?_
    refine go_getr2 fl_X12_69 (pc := 1) dX12_does_1 (by rfl) (by rfl) (by rfl) ?_
    refine go_iload_n (i := 1) (pc := 4) dX12_does_4 rfl rfl ?_
    refine go_iaload _ (pc := 5) dX12_does_5 (by first | rfl | (apply zM_ar <;> assumption)) (by first | rfl | (apply zM_jn <;> assumption)) rfl (by first | assumption | omega) ?_
    rw [h18]
    refine go_istore_n (i := 2) (pc := 6) dX12_does_6 rfl (by decide) ?_
    refine go_aload_n (i := 0) (pc := 7) dX12_does_7 rfl rfl ?_
    refine go_getr2 fl_X12_66 (pc := 8) dX12_does_8 (by rfl) (by rfl) (by rfl) ?_
    refine go_iload_n (i := 1) (pc := 11) dX12_does_11 rfl rfl ?_
    refine go_iaload _ (pc := 12) dX12_does_12 (by first | rfl | (apply zM_ar <;> assumption)) (by first | rfl | (apply zM_jn <;> assumption)) rfl (by first | assumption | omega) ?_
    rw [h17]
    refine go_tableIn 76 (off := 63) (pc := 13) dX12_does_13 (by decide) (by decide) (by decide) (by decide) ?_
    refine go_aload_n (i := 0) (pc := 76) dX12_does_76 rfl rfl ?_
    refine go_iload_n (i := 2) (pc := 77) dX12_does_77 rfl rfl ?_
    refine go_aload_n (i := 0) (pc := 78) dX12_does_78 rfl rfl ?_
    refine go_getr2 fl_X12_72 (pc := 79) dX12_does_79 (by rfl) (by rfl) (by rfl) ?_
    refine go_iload_n (i := 1) (pc := 82) dX12_does_82 rfl rfl ?_
    refine go_iaload _ (pc := 83) dX12_does_83 (by first | rfl | (apply zM_ar <;> assumption)) (by first | rfl | (apply zM_jn <;> assumption)) rfl (by first | assumption | omega) ?_
    rw [h19]
    refine go_callV ml_X12_322 mt_X12_plants (pc := 84) dX12_does_84 (c_X12_plants hE.2.2.2 hw hok) (by rfl) rfl (by rfl) (by decide) (by decide) rfl rfl (Nat.le_of_ble_eq_true rfl) (fun r σ' hp => ?_)
    obtain ⟨rfl, hR, hFd⟩ := hp
    dsimp only [zRet]
    have hF := hFd.mono (fs2 := [27, 28]) (js2 := [13, 14, 16, 7]) (by simp) (by simp)
    refine go_if_lt 94 (pc := 87) dX12_does_87 (by decide) (fun h87 => ?_) (fun h87 => ?_)
    · first | rw [zb_0d] at h87 | rw [zn_lt0 (by omega)] at h87 | rw [zi_lt0] at h87
      refine go_iconst (nI 0) (pc := 94) dX12_does_94 (by decide) ?_
      refine go_zreturn (pc := 95) dX12_does_95 rfl (by first | rfl | (apply zb_nar)) ?_
      first | exact ⟨zr_t (by omega), hR, hF⟩ | exact ⟨zr_f (by omega), hR, hF⟩
    · first | rw [zb_0d] at h87 | rw [zn_lt0 (by omega)] at h87 | rw [zi_lt0] at h87
      refine go_iconst (nI 1) (pc := 90) dX12_does_90 (by decide) ?_
      refine go_goto 95 (pc := 91) dX12_does_91 (by decide) ?_
      refine go_zreturn (pc := 95) dX12_does_95 rfl (by first | rfl | (apply zb_nar)) ?_
      first | exact ⟨zr_t (by omega), hR, hF⟩ | exact ⟨zr_f (by omega), hR, hF⟩
  · skip
    have h17 : σ.2.1 33 17 k = nI 4 := by rw [hA.1, hfp]; rfl
    have h18 : σ.2.1 33 18 k = nI (10 * (f (p + 1) - 48) + (f (p + 2) - 48)) := by rw [hA.2.1]; unfold aV1; rw [hfp]; rfl
    rw [dAct_c hfp]
    refine go_aload_n (i := 0) (pc := 0) dX12_does_0 rfl rfl ?_
    refine go_getr2 fl_X12_69 (pc := 1) dX12_does_1 (by rfl) (by rfl) (by rfl) ?_
    refine go_iload_n (i := 1) (pc := 4) dX12_does_4 rfl rfl ?_
    refine go_iaload _ (pc := 5) dX12_does_5 (by first | rfl | (apply zM_ar <;> assumption)) (by first | rfl | (apply zM_jn <;> assumption)) rfl (by first | assumption | omega) ?_
    rw [h18]
    refine go_istore_n (i := 2) (pc := 6) dX12_does_6 rfl (by decide) ?_
    refine go_aload_n (i := 0) (pc := 7) dX12_does_7 rfl rfl ?_
    refine go_getr2 fl_X12_66 (pc := 8) dX12_does_8 (by rfl) (by rfl) (by rfl) ?_
    refine go_iload_n (i := 1) (pc := 11) dX12_does_11 rfl rfl ?_
    refine go_iaload _ (pc := 12) dX12_does_12 (by first | rfl | (apply zM_ar <;> assumption)) (by first | rfl | (apply zM_jn <;> assumption)) rfl (by first | assumption | omega) ?_
    rw [h17]
    refine go_tableOut 110 (pc := 13) dX12_does_13 (by decide) (by decide) ?_
    refine go_aload_n (i := 0) (pc := 110) dX12_does_110 rfl rfl ?_
    refine go_aload_n (i := 0) (pc := 111) dX12_does_111 rfl rfl ?_
    refine go_getr2 fl_X12_66 (pc := 112) dX12_does_112 (by rfl) (by rfl) (by rfl) ?_
    refine go_iload_n (i := 1) (pc := 115) dX12_does_115 rfl rfl ?_
    refine go_iaload _ (pc := 116) dX12_does_116 (by first | rfl | (apply zM_ar <;> assumption)) (by first | rfl | (apply zM_jn <;> assumption)) rfl (by first | assumption | omega) ?_
    rw [h17]
    refine go_iconst (nI 4) (pc := 117) dX12_does_117 (by decide) ?_
    refine go_isubN (pc := 118) dX12_does_118 (by decide) ?_
    change GoM _ _ _ _ _ _ _ _ _ _ (.int (nI 0) :: _)
    refine go_iload_n (i := 2) (pc := 119) dX12_does_119 rfl rfl ?_
    refine go_callV ml_X12_313 mt_X12_prices (pc := 120) dX12_does_120 (c_X12_prices hw) (by rfl) rfl (by rfl) (by decide) (by decide) rfl rfl (Nat.le_of_ble_eq_true rfl) (fun r σ' hp => ?_)
    obtain ⟨rfl, hR, hFd⟩ := hp
    dsimp only [zRet]
    have hF := hFd.mono (fs2 := [27, 28]) (js2 := [13, 14, 16, 7]) (by simp) (by simp)
    refine go_if_lt 130 (pc := 123) dX12_does_123 (by decide) (fun h123 => ?_) (fun h123 => ?_)
    · first | rw [zb_0d] at h123 | rw [zn_lt0 (by omega)] at h123 | rw [zi_lt0] at h123
      refine go_iconst (nI 0) (pc := 130) dX12_does_130 (by decide) ?_
      refine go_zreturn (pc := 131) dX12_does_131 rfl (by first | rfl | (apply zb_nar)) ?_
      first | exact ⟨zr_t (by omega), hR, hF⟩ | exact ⟨zr_f (by omega), hR, hF⟩
    · first | rw [zb_0d] at h123 | rw [zn_lt0 (by omega)] at h123 | rw [zi_lt0] at h123
      refine go_iconst (nI 1) (pc := 126) dX12_does_126 (by decide) ?_
      refine go_goto 131 (pc := 127) dX12_does_127 (by decide) ?_
      refine go_zreturn (pc := 131) dX12_does_131 rfl (by first | rfl | (apply zb_nar)) ?_
      first | exact ⟨zr_t (by omega), hR, hF⟩ | exact ⟨zr_f (by omega), hR, hF⟩
  · skip
    have h17 : σ.2.1 33 17 k = nI 5 := by rw [hA.1, hfp]; rfl
    have h18 : σ.2.1 33 18 k = nI (10 * (f (p + 1) - 48) + (f (p + 2) - 48)) := by rw [hA.2.1]; unfold aV1; rw [hfp]; rfl
    rw [dAct_d hfp]
    refine go_aload_n (i := 0) (pc := 0) dX12_does_0 rfl rfl ?_
    refine go_getr2 fl_X12_69 (pc := 1) dX12_does_1 (by rfl) (by rfl) (by rfl) ?_
    refine go_iload_n (i := 1) (pc := 4) dX12_does_4 rfl rfl ?_
    refine go_iaload _ (pc := 5) dX12_does_5 (by first | rfl | (apply zM_ar <;> assumption)) (by first | rfl | (apply zM_jn <;> assumption)) rfl (by first | assumption | omega) ?_
    rw [h18]
    refine go_istore_n (i := 2) (pc := 6) dX12_does_6 rfl (by decide) ?_
    refine go_aload_n (i := 0) (pc := 7) dX12_does_7 rfl rfl ?_
    refine go_getr2 fl_X12_66 (pc := 8) dX12_does_8 (by rfl) (by rfl) (by rfl) ?_
    refine go_iload_n (i := 1) (pc := 11) dX12_does_11 rfl rfl ?_
    refine go_iaload _ (pc := 12) dX12_does_12 (by first | rfl | (apply zM_ar <;> assumption)) (by first | rfl | (apply zM_jn <;> assumption)) rfl (by first | assumption | omega) ?_
    rw [h17]
    refine go_tableOut 110 (pc := 13) dX12_does_13 (by decide) (by decide) ?_
    refine go_aload_n (i := 0) (pc := 110) dX12_does_110 rfl rfl ?_
    refine go_aload_n (i := 0) (pc := 111) dX12_does_111 rfl rfl ?_
    refine go_getr2 fl_X12_66 (pc := 112) dX12_does_112 (by rfl) (by rfl) (by rfl) ?_
    refine go_iload_n (i := 1) (pc := 115) dX12_does_115 rfl rfl ?_
    refine go_iaload _ (pc := 116) dX12_does_116 (by first | rfl | (apply zM_ar <;> assumption)) (by first | rfl | (apply zM_jn <;> assumption)) rfl (by first | assumption | omega) ?_
    rw [h17]
    refine go_iconst (nI 4) (pc := 117) dX12_does_117 (by decide) ?_
    refine go_isubN (pc := 118) dX12_does_118 (by decide) ?_
    change GoM _ _ _ _ _ _ _ _ _ _ (.int (nI 1) :: _)
    refine go_iload_n (i := 2) (pc := 119) dX12_does_119 rfl rfl ?_
    refine go_callV ml_X12_313 mt_X12_prices (pc := 120) dX12_does_120 (c_X12_prices hw) (by rfl) rfl (by rfl) (by decide) (by decide) rfl rfl (Nat.le_of_ble_eq_true rfl) (fun r σ' hp => ?_)
    obtain ⟨rfl, hR, hFd⟩ := hp
    dsimp only [zRet]
    have hF := hFd.mono (fs2 := [27, 28]) (js2 := [13, 14, 16, 7]) (by simp) (by simp)
    refine go_if_lt 130 (pc := 123) dX12_does_123 (by decide) (fun h123 => ?_) (fun h123 => ?_)
    · first | rw [zb_0d] at h123 | rw [zn_lt0 (by omega)] at h123 | rw [zi_lt0] at h123
      refine go_iconst (nI 0) (pc := 130) dX12_does_130 (by decide) ?_
      refine go_zreturn (pc := 131) dX12_does_131 rfl (by first | rfl | (apply zb_nar)) ?_
      first | exact ⟨zr_t (by omega), hR, hF⟩ | exact ⟨zr_f (by omega), hR, hF⟩
    · first | rw [zb_0d] at h123 | rw [zn_lt0 (by omega)] at h123 | rw [zi_lt0] at h123
      refine go_iconst (nI 1) (pc := 126) dX12_does_126 (by decide) ?_
      refine go_goto 131 (pc := 127) dX12_does_127 (by decide) ?_
      refine go_zreturn (pc := 131) dX12_does_131 rfl (by first | rfl | (apply zb_nar)) ?_
      first | exact ⟨zr_t (by omega), hR, hF⟩ | exact ⟨zr_f (by omega), hR, hF⟩

