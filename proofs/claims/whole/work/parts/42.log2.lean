theorem aLen_v {v : Nat} (h : aLen v = 2 ∨ aLen v = 3) : v = 119 ∨ v = 103 ∨ v = 109 ∨ v = 112 ∨ v = 99 ∨ v = 100 := by
  unfold aLen at h
  split at h
  · omega
  · split at h <;> omega
theorem fAct_m {a v : Nat} (h : fAct a 1 v = true) (ha : a = 109 ∨ a = 112 ∨ a = 103) : 97 ≤ v ∧ v ≤ 108 := by
  unfold fAct at h
  rw [if_pos ⟨rfl, ha⟩] at h
  exact of_decide_eq_true h
theorem fAct_d {a i v : Nat} (h : fAct a i v = true) (ha : ¬ (i = 1 ∧ (a = 109 ∨ a = 112 ∨ a = 103))) : (48 ≤ v ∧ v ≤ 57) ∧ ¬ (a = 112 ∧ v = 48) := by
  unfold fAct at h
  rw [if_neg ha] at h
  exact of_decide_eq_true h
theorem tNum_1 (f : Nat → Nat) (a : Nat) : tNum f a 1 0 = f a - 48 := by simp [tNum]
theorem tNum_22 (f : Nat → Nat) (a : Nat) : tNum f a 2 0 = 10 * (f a - 48) + (f (a + 1) - 48) := by simp [tNum]
theorem dAct_w {V : zV} {f ρ : Nat → Nat} {p : Nat} (h : f p = 119) : dAct V f ρ p = (nI (wks V ρ (f (p + 1) - 48)).2.2.1, (wks V ρ (f (p + 1) - 48)).2.2.2) := by unfold dAct; rw [if_pos h]
theorem dAct_m {V : zV} {f ρ : Nat → Nat} {p : Nat} (h : f p = 109) : dAct V f ρ p = aGuard (vN V) ρ (nI (f (p + 1) - 97)) (nI (f (p + 2) - 48)) := by unfold dAct; rw [if_neg (by omega), if_pos h]
theorem dAct_p {V : zV} {f ρ : Nat → Nat} {p : Nat} (h : f p = 112) : dAct V f ρ p = aPlant (vN V) ρ (nI (f (p + 1) - 97)) (nI (f (p + 2) - 48)) := by unfold dAct; rw [if_neg (by omega), if_neg (by omega), if_pos h]
theorem dAct_g {V : zV} {f ρ : Nat → Nat} {p : Nat} (h : f p = 103) : dAct V f ρ p = aGate (vN V) ρ (nI (f (p + 1) - 97)) := by unfold dAct; rw [if_neg (by omega), if_neg (by omega), if_neg (by omega), if_pos h]
theorem dAct_c {V : zV} {f ρ : Nat → Nat} {p : Nat} (h : f p = 99) : dAct V f ρ p = aPrice ρ (nI 0) (nI (10 * (f (p + 1) - 48) + (f (p + 2) - 48))) := by unfold dAct; rw [if_neg (by omega), if_neg (by omega), if_neg (by omega), if_neg (by omega), if_pos h]
theorem dAct_d {V : zV} {f ρ : Nat → Nat} {p : Nat} (h : f p = 100) : dAct V f ρ p = aPrice ρ (nI 1) (nI (10 * (f (p + 1) - 48) + (f (p + 2) - 48))) := by unfold dAct; rw [if_neg (by omega), if_neg (by omega), if_neg (by omega), if_neg (by omega), if_neg (by omega)]

theorem dig2 {f : Nat → Nat} {a : Nat} (h : 48 ≤ f a ∧ f a ≤ 57) (h2 : 48 ≤ f (a + 1) ∧ f (a + 1) ≤ 57) : ∀ i, i < 2 → 48 ≤ f (a + i) ∧ f (a + i) ≤ 57 := by
  intro i hi
  have e : i = 0 ∨ i = 1 := by omega
  rcases e with rfl | rfl
  · exact h
  · exact h2
theorem c_X11_doAct {E : zE} {σ : zT} {tx : Nat × (Nat → Nat)} {bd : Nat × (Nat → Nat) × (Nat → Nat)} {sk : Nat × (Nat → Nat)} {tw : Nat × (Nat → Nat) × (Nat → Nat)} {xs : List Nat} {ld : Nat × (Nat → Nat)} {pa sh : Nat × (Nat → Nat → Nat)} {ru : Nat × (Nat → Nat) × (Nat → Nat)} {to : Nat × (Nat → Int64)} {p : Nat} (hC : ClsIs σ tx bd sk tw xs ld pa sh ru to) (ha : (aOne tx.2 tx.1 p).1 = true) (h60 : tx.1 ≤ 60) (hr1 : ld.2 27 + 9 < 2 ^ 28) (hr2 : ld.2 28 + 648 < 2 ^ 28) : CalM E 7 yX11_doAct cX11_doAct 3 (some .int) [.ref (zA E 0 0), .int (nI p)] σ (fun r σ' => r = some (.int (dAct (vOf bd sk xs ld.1) tx.2 ld.2 p).1) ∧ ClsIs σ' tx bd sk tw xs (ld.1, (dAct (vOf bd sk xs ld.1) tx.2 ld.2 p).2) pa sh ru to ∧ (∃ kr, zRl kr = true ∧ FrG [kr, 5, 6] σ σ')) := by
  refine cal_of_go (own := RX11) rfl (by decide +kernel) (Nat.le_of_ble_eq_true rfl) ?_
  have hL := hC.2.2.2.2.2.1
  have hn := hL.b
  have hok := hL.1
  have hB0 := hC.2.2.1
  have hnc := hB0.1
  have hT := hC.2.1
  obtain ⟨ha1, ha2, hf1, ha3⟩ := aOne_t ha
  have hv6 := aLen_v (v := tx.2 p) (by omega)
  have hvp := (hT.2.2 p (by omega)).2
  have hvp1 := (hT.2.2 (p + 1) (by omega)).2
  have hvp2 := (hT.2.2 (p + 2) (by omega)).2
  obtain ⟨kr, hkr, hz, hR14, hW⟩ := hC.w (kl := 6) rfl hL
  refine go_aload_n (i := 0) (pc := 0) dX11_doAct_0 rfl rfl ?_
  refine go_getr2 fl_X11_10 (pc := 1) dX11_doAct_1 (by first | rfl | (apply zL_ci <;> assumption) | (apply zR_ci <;> assumption)) (by first | rfl | (apply zL_in <;> first | assumption | decide) | (apply zR_in <;> first | assumption | decide)) (by first | rfl | (apply zL_fr0 <;> assumption) | (apply zL_fr1 <;> assumption) | (apply zR_fr0 <;> assumption) | (apply zR_fr1 <;> assumption) | (apply zR_fr2 <;> assumption) | (apply zR_fr3 <;> assumption)) ?_
  refine go_iload_n (i := 1) (pc := 4) dX11_doAct_4 rfl rfl ?_
  refine go_iconst (nI 1) (pc := 5) dX11_doAct_5 (by decide) ?_
  first | with_reducible refine go_iaddN (pc := 6) dX11_doAct_6 ?_ | refine go_iadd (pc := 6) dX11_doAct_6 ?_
  refine go_callV ml_X11_130 mt_X8_at (pc := 7) dX11_doAct_7 (c_X8_at hT (by omega)) (by first | rfl | (apply zL_cq <;> assumption) | (apply zR_cq <;> assumption)) rfl (by first | rfl | (apply zL_in <;> first | assumption | decide) | (apply zR_in <;> first | assumption | decide)) (by decide) (by decide) rfl rfl (Nat.le_of_ble_eq_true rfl) (fun r σ' hp => ?_)
  obtain ⟨rfl, hσ⟩ := hp
  rw [hσ]
  clear hσ σ'
  dsimp only [zRet]
  rw [tAt_in (by omega)]
  refine go_bipush (nI 97) (pc := 10) dX11_doAct_10 (by decide) ?_
  refine go_isub (pc := 12) dX11_doAct_12 ?_
  refine go_istore_n (i := 2) (pc := 13) dX11_doAct_13 rfl (by decide) ?_
  refine go_aload_n (i := 0) (pc := 14) dX11_doAct_14 rfl rfl ?_
  refine go_getr2 fl_X11_10 (pc := 15) dX11_doAct_15 (by first | rfl | (apply zL_ci <;> assumption) | (apply zR_ci <;> assumption)) (by first | rfl | (apply zL_in <;> first | assumption | decide) | (apply zR_in <;> first | assumption | decide)) (by first | rfl | (apply zL_fr0 <;> assumption) | (apply zL_fr1 <;> assumption) | (apply zR_fr0 <;> assumption) | (apply zR_fr1 <;> assumption) | (apply zR_fr2 <;> assumption) | (apply zR_fr3 <;> assumption)) ?_
  refine go_iload_n (i := 1) (pc := 18) dX11_doAct_18 rfl rfl ?_
  refine go_callV ml_X11_130 mt_X8_at (pc := 19) dX11_doAct_19 (c_X8_at hT (by omega)) (by first | rfl | (apply zL_cq <;> assumption) | (apply zR_cq <;> assumption)) rfl (by first | rfl | (apply zL_in <;> first | assumption | decide) | (apply zR_in <;> first | assumption | decide)) (by decide) (by decide) rfl rfl (Nat.le_of_ble_eq_true rfl) (fun r σ' hp => ?_)
  obtain ⟨rfl, hσ⟩ := hp
  rw [hσ]
  clear hσ σ'
  dsimp only [zRet]
  rw [tAt_in (by omega)]
  rcases (show tx.2 p = 99 ∨ tx.2 p = 100 ∨ tx.2 p = 103 ∨ tx.2 p = 109 ∨ tx.2 p = 112 ∨ tx.2 p = 119 ∨ (tx.2 p ≠ 99 ∧ tx.2 p ≠ 100 ∧ tx.2 p ≠ 103 ∧ tx.2 p ≠ 109 ∧ tx.2 p ≠ 112 ∧ tx.2 p ≠ 119) by omega) with h22 | h22 | h22 | h22 | h22 | h22 | h22
  · have hl3 : aLen (tx.2 p) = 3 := by rw [h22]; decide
    have hd1 := (fAct_d hf1 (by omega)).1
    have hd2 := (fAct_d (ha3.resolve_left (by omega)).2 (by omega)).1
    refine go_lookup (off := 125) 147 (pc := 22) dX11_doAct_22 (by decide) (by rw [nI_toInt (by omega)]; rw [h22]; rfl) (by decide) ?_
    refine go_aload_n (i := 0) (pc := 147) dX11_doAct_147 rfl rfl ?_
    refine go_iconst (nI 0) (pc := 148) dX11_doAct_148 (by decide) ?_
    refine go_aload_n (i := 0) (pc := 149) dX11_doAct_149 rfl rfl ?_
    refine go_getr2 fl_X11_10 (pc := 150) dX11_doAct_150 (by first | rfl | (apply zL_ci <;> assumption) | (apply zR_ci <;> assumption)) (by first | rfl | (apply zL_in <;> first | assumption | decide) | (apply zR_in <;> first | assumption | decide)) (by first | rfl | (apply zL_fr0 <;> assumption) | (apply zL_fr1 <;> assumption) | (apply zR_fr0 <;> assumption) | (apply zR_fr1 <;> assumption) | (apply zR_fr2 <;> assumption) | (apply zR_fr3 <;> assumption)) ?_
    refine go_iload_n (i := 1) (pc := 153) dX11_doAct_153 rfl rfl ?_
    refine go_iconst (nI 1) (pc := 154) dX11_doAct_154 (by decide) ?_
    first | with_reducible refine go_iaddN (pc := 155) dX11_doAct_155 ?_ | refine go_iadd (pc := 155) dX11_doAct_155 ?_
    refine go_iconst (nI 2) (pc := 156) dX11_doAct_156 (by decide) ?_
    refine go_callV ml_X11_285 mt_X8_number (pc := 157) dX11_doAct_157 (c_X8_number hT (by decide) (by omega) (dig2 hd1 hd2)) (by first | rfl | (apply zL_cq <;> assumption) | (apply zR_cq <;> assumption)) rfl (by first | rfl | (apply zL_in <;> first | assumption | decide) | (apply zR_in <;> first | assumption | decide)) (by decide) (by decide) rfl rfl (Nat.le_of_ble_eq_true rfl) (fun r σ' hp => ?_)
    obtain ⟨rfl, hσ⟩ := hp
    rw [hσ]
    clear hσ σ'
    dsimp only [zRet]
    rw [tNum_22]
    refine go_callV ml_X11_202 mt_X11_setPrice (pc := 160) dX11_doAct_160 (c_X11_setPrice hL) (by first | rfl | (apply zL_cq <;> assumption) | (apply zR_cq <;> assumption)) rfl (by first | rfl | (apply zL_in <;> first | assumption | decide) | (apply zR_in <;> first | assumption | decide)) (by decide) (by decide) rfl rfl (Nat.le_of_ble_eq_true rfl) (fun r σ' hp => ?_)
    obtain ⟨rfl, hL2, hf⟩ := hp
    dsimp only [zRet]
    have hC2 := hC.setL hf hL2
    refine go_ireturn (pc := 163) dX11_doAct_163 rfl ?_
    rw [dAct_c h22]
    exact ⟨rfl, hC2, ⟨kr, hz, hf.mono (by simp)⟩⟩
  · have hl3 : aLen (tx.2 p) = 3 := by rw [h22]; decide
    have hd1 := (fAct_d hf1 (by omega)).1
    have hd2 := (fAct_d (ha3.resolve_left (by omega)).2 (by omega)).1
    refine go_lookup (off := 142) 164 (pc := 22) dX11_doAct_22 (by decide) (by rw [nI_toInt (by omega)]; rw [h22]; rfl) (by decide) ?_
    refine go_aload_n (i := 0) (pc := 164) dX11_doAct_164 rfl rfl ?_
    refine go_iconst (nI 1) (pc := 165) dX11_doAct_165 (by decide) ?_
    refine go_aload_n (i := 0) (pc := 166) dX11_doAct_166 rfl rfl ?_
    refine go_getr2 fl_X11_10 (pc := 167) dX11_doAct_167 (by first | rfl | (apply zL_ci <;> assumption) | (apply zR_ci <;> assumption)) (by first | rfl | (apply zL_in <;> first | assumption | decide) | (apply zR_in <;> first | assumption | decide)) (by first | rfl | (apply zL_fr0 <;> assumption) | (apply zL_fr1 <;> assumption) | (apply zR_fr0 <;> assumption) | (apply zR_fr1 <;> assumption) | (apply zR_fr2 <;> assumption) | (apply zR_fr3 <;> assumption)) ?_
    refine go_iload_n (i := 1) (pc := 170) dX11_doAct_170 rfl rfl ?_
    refine go_iconst (nI 1) (pc := 171) dX11_doAct_171 (by decide) ?_
    first | with_reducible refine go_iaddN (pc := 172) dX11_doAct_172 ?_ | refine go_iadd (pc := 172) dX11_doAct_172 ?_
    refine go_iconst (nI 2) (pc := 173) dX11_doAct_173 (by decide) ?_
    refine go_callV ml_X11_285 mt_X8_number (pc := 174) dX11_doAct_174 (c_X8_number hT (by decide) (by omega) (dig2 hd1 hd2)) (by first | rfl | (apply zL_cq <;> assumption) | (apply zR_cq <;> assumption)) rfl (by first | rfl | (apply zL_in <;> first | assumption | decide) | (apply zR_in <;> first | assumption | decide)) (by decide) (by decide) rfl rfl (Nat.le_of_ble_eq_true rfl) (fun r σ' hp => ?_)
    obtain ⟨rfl, hσ⟩ := hp
    rw [hσ]
    clear hσ σ'
    dsimp only [zRet]
    rw [tNum_22]
    refine go_callV ml_X11_202 mt_X11_setPrice (pc := 177) dX11_doAct_177 (c_X11_setPrice hL) (by first | rfl | (apply zL_cq <;> assumption) | (apply zR_cq <;> assumption)) rfl (by first | rfl | (apply zL_in <;> first | assumption | decide) | (apply zR_in <;> first | assumption | decide)) (by decide) (by decide) rfl rfl (Nat.le_of_ble_eq_true rfl) (fun r σ' hp => ?_)
    obtain ⟨rfl, hL2, hf⟩ := hp
    dsimp only [zRet]
    have hC2 := hC.setL hf hL2
    refine go_ireturn (pc := 180) dX11_doAct_180 rfl ?_
    rw [dAct_d h22]
    exact ⟨rfl, hC2, ⟨kr, hz, hf.mono (by simp)⟩⟩
  · have hmi : nI (tx.2 (p + 1)) - nI 97 = nI (tx.2 (p + 1) - 97) := pk_sub (fAct_m hf1 (by omega)).1
    rw [hmi]
    refine go_lookup (off := 119) 141 (pc := 22) dX11_doAct_22 (by decide) (by rw [nI_toInt (by omega)]; rw [h22]; rfl) (by decide) ?_
    refine go_aload_n (i := 0) (pc := 141) dX11_doAct_141 rfl rfl ?_
    refine go_iload_n (i := 2) (pc := 142) dX11_doAct_142 rfl rfl ?_
    refine go_callV ml_X11_214 mt_X11_turnGate (pc := 143) dX11_doAct_143 (c_X11_turnGate hL) (by first | rfl | (apply zL_cq <;> assumption) | (apply zR_cq <;> assumption)) rfl (by first | rfl | (apply zL_in <;> first | assumption | decide) | (apply zR_in <;> first | assumption | decide)) (by decide) (by decide) rfl rfl (Nat.le_of_ble_eq_true rfl) (fun r σ' hp => ?_)
    obtain ⟨rfl, hL2, hf⟩ := hp
    dsimp only [zRet]
    have hC2 := hC.setL hf hL2
    refine go_ireturn (pc := 146) dX11_doAct_146 rfl ?_
    rw [dAct_g h22]
    exact ⟨rfl, hC2, ⟨kr, hz, hf.mono (by simp)⟩⟩
  · have hmi : nI (tx.2 (p + 1)) - nI 97 = nI (tx.2 (p + 1) - 97) := pk_sub (fAct_m hf1 (by omega)).1
    rw [hmi]
    have hl3 : aLen (tx.2 p) = 3 := by rw [h22]; decide
    have hd2 := (fAct_d (ha3.resolve_left (by omega)).2 (by omega)).1
    refine go_lookup (off := 85) 107 (pc := 22) dX11_doAct_22 (by decide) (by rw [nI_toInt (by omega)]; rw [h22]; rfl) (by decide) ?_
    refine go_aload_n (i := 0) (pc := 107) dX11_doAct_107 rfl rfl ?_
    refine go_iload_n (i := 2) (pc := 108) dX11_doAct_108 rfl rfl ?_
    refine go_aload_n (i := 0) (pc := 109) dX11_doAct_109 rfl rfl ?_
    refine go_getr2 fl_X11_10 (pc := 110) dX11_doAct_110 (by first | rfl | (apply zL_ci <;> assumption) | (apply zR_ci <;> assumption)) (by first | rfl | (apply zL_in <;> first | assumption | decide) | (apply zR_in <;> first | assumption | decide)) (by first | rfl | (apply zL_fr0 <;> assumption) | (apply zL_fr1 <;> assumption) | (apply zR_fr0 <;> assumption) | (apply zR_fr1 <;> assumption) | (apply zR_fr2 <;> assumption) | (apply zR_fr3 <;> assumption)) ?_
    refine go_iload_n (i := 1) (pc := 113) dX11_doAct_113 rfl rfl ?_
    refine go_iconst (nI 2) (pc := 114) dX11_doAct_114 (by decide) ?_
    first | with_reducible refine go_iaddN (pc := 115) dX11_doAct_115 ?_ | refine go_iadd (pc := 115) dX11_doAct_115 ?_
    refine go_iconst (nI 1) (pc := 116) dX11_doAct_116 (by decide) ?_
    refine go_callV ml_X11_285 mt_X8_number (pc := 117) dX11_doAct_117 (c_X8_number hT (by decide) (by omega) (dig1 hd2)) (by first | rfl | (apply zL_cq <;> assumption) | (apply zR_cq <;> assumption)) rfl (by first | rfl | (apply zL_in <;> first | assumption | decide) | (apply zR_in <;> first | assumption | decide)) (by decide) (by decide) rfl rfl (Nat.le_of_ble_eq_true rfl) (fun r σ' hp => ?_)
    obtain ⟨rfl, hσ⟩ := hp
    rw [hσ]
    clear hσ σ'
    dsimp only [zRet]
    rw [tNum_1]
    refine go_callV ml_X11_208 mt_X11_setGuard (pc := 120) dX11_doAct_120 (c_X11_setGuard hL) (by first | rfl | (apply zL_cq <;> assumption) | (apply zR_cq <;> assumption)) rfl (by first | rfl | (apply zL_in <;> first | assumption | decide) | (apply zR_in <;> first | assumption | decide)) (by decide) (by decide) rfl rfl (Nat.le_of_ble_eq_true rfl) (fun r σ' hp => ?_)
    obtain ⟨rfl, hL2, hf⟩ := hp
    dsimp only [zRet]
    have hC2 := hC.setL hf hL2
    refine go_ireturn (pc := 123) dX11_doAct_123 rfl ?_
    rw [dAct_m h22]
    exact ⟨rfl, hC2, ⟨kr, hz, hf.mono (by simp)⟩⟩
  · have hmi : nI (tx.2 (p + 1)) - nI 97 = nI (tx.2 (p + 1) - 97) := pk_sub (fAct_m hf1 (by omega)).1
    rw [hmi]
    have hl3 : aLen (tx.2 p) = 3 := by rw [h22]; decide
    have hd2 := (fAct_d (ha3.resolve_left (by omega)).2 (by omega)).1
    refine go_lookup (off := 102) 124 (pc := 22) dX11_doAct_22 (by decide) (by rw [nI_toInt (by omega)]; rw [h22]; rfl) (by decide) ?_
    refine go_aload_n (i := 0) (pc := 124) dX11_doAct_124 rfl rfl ?_
    refine go_iload_n (i := 2) (pc := 125) dX11_doAct_125 rfl rfl ?_
    refine go_aload_n (i := 0) (pc := 126) dX11_doAct_126 rfl rfl ?_
    refine go_getr2 fl_X11_10 (pc := 127) dX11_doAct_127 (by first | rfl | (apply zL_ci <;> assumption) | (apply zR_ci <;> assumption)) (by first | rfl | (apply zL_in <;> first | assumption | decide) | (apply zR_in <;> first | assumption | decide)) (by first | rfl | (apply zL_fr0 <;> assumption) | (apply zL_fr1 <;> assumption) | (apply zR_fr0 <;> assumption) | (apply zR_fr1 <;> assumption) | (apply zR_fr2 <;> assumption) | (apply zR_fr3 <;> assumption)) ?_
    refine go_iload_n (i := 1) (pc := 130) dX11_doAct_130 rfl rfl ?_
    refine go_iconst (nI 2) (pc := 131) dX11_doAct_131 (by decide) ?_
    first | with_reducible refine go_iaddN (pc := 132) dX11_doAct_132 ?_ | refine go_iadd (pc := 132) dX11_doAct_132 ?_
    refine go_iconst (nI 1) (pc := 133) dX11_doAct_133 (by decide) ?_
    refine go_callV ml_X11_285 mt_X8_number (pc := 134) dX11_doAct_134 (c_X8_number hT (by decide) (by omega) (dig1 hd2)) (by first | rfl | (apply zL_cq <;> assumption) | (apply zR_cq <;> assumption)) rfl (by first | rfl | (apply zL_in <;> first | assumption | decide) | (apply zR_in <;> first | assumption | decide)) (by decide) (by decide) rfl rfl (Nat.le_of_ble_eq_true rfl) (fun r σ' hp => ?_)
    obtain ⟨rfl, hσ⟩ := hp
    rw [hσ]
    clear hσ σ'
    dsimp only [zRet]
    rw [tNum_1]
    refine go_callV ml_X11_211 mt_X11_addThorns (pc := 137) dX11_doAct_137 (c_X11_addThorns hL) (by first | rfl | (apply zL_cq <;> assumption) | (apply zR_cq <;> assumption)) rfl (by first | rfl | (apply zL_in <;> first | assumption | decide) | (apply zR_in <;> first | assumption | decide)) (by decide) (by decide) rfl rfl (Nat.le_of_ble_eq_true rfl) (fun r σ' hp => ?_)
    obtain ⟨rfl, hL2, hf⟩ := hp
    dsimp only [zRet]
    have hC2 := hC.setL hf hL2
    refine go_ireturn (pc := 140) dX11_doAct_140 rfl ?_
    rw [dAct_p h22]
    exact ⟨rfl, hC2, ⟨kr, hz, hf.mono (by simp)⟩⟩
  · have hl2 : aLen (tx.2 p) = 2 := by rw [h22]; decide
    refine go_lookup (off := 58) 80 (pc := 22) dX11_doAct_22 (by decide) (by rw [nI_toInt (by omega)]; rw [h22]; rfl) (by decide) ?_
    refine go_aload_n (i := 0) (pc := 80) dX11_doAct_80 rfl rfl ?_
    refine go_getr2 fl_X11_42 (pc := 81) dX11_doAct_81 (by first | rfl | (apply zL_ci <;> assumption) | (apply zR_ci <;> assumption)) (by first | rfl | (apply zL_in <;> first | assumption | decide) | (apply zR_in <;> first | assumption | decide)) (by first | rfl | (apply zL_fr0 <;> assumption) | (apply zL_fr1 <;> assumption) | (apply zR_fr0 <;> assumption) | (apply zR_fr1 <;> assumption) | (apply zR_fr2 <;> assumption) | (apply zR_fr3 <;> assumption)) ?_
    refine go_aload_n (i := 0) (pc := 84) dX11_doAct_84 rfl rfl ?_
    refine go_getR fl_X11_97 (pc := 85) dX11_doAct_85 rfl ?_
    rw [hR14]
    refine go_aload_n (i := 0) (pc := 88) dX11_doAct_88 rfl rfl ?_
    refine go_getr2 fl_X11_49 (pc := 89) dX11_doAct_89 (by first | rfl | (apply zL_ci <;> assumption) | (apply zR_ci <;> assumption)) (by first | rfl | (apply zL_in <;> first | assumption | decide) | (apply zR_in <;> first | assumption | decide)) (by first | rfl | (apply zL_fr0 <;> assumption) | (apply zL_fr1 <;> assumption) | (apply zR_fr0 <;> assumption) | (apply zR_fr1 <;> assumption) | (apply zR_fr2 <;> assumption) | (apply zR_fr3 <;> assumption)) ?_
    refine go_aload_n (i := 0) (pc := 92) dX11_doAct_92 rfl rfl ?_
    refine go_getr2 fl_X11_10 (pc := 93) dX11_doAct_93 (by first | rfl | (apply zL_ci <;> assumption) | (apply zR_ci <;> assumption)) (by first | rfl | (apply zL_in <;> first | assumption | decide) | (apply zR_in <;> first | assumption | decide)) (by first | rfl | (apply zL_fr0 <;> assumption) | (apply zL_fr1 <;> assumption) | (apply zR_fr0 <;> assumption) | (apply zR_fr1 <;> assumption) | (apply zR_fr2 <;> assumption) | (apply zR_fr3 <;> assumption)) ?_
    refine go_iload_n (i := 1) (pc := 96) dX11_doAct_96 rfl rfl ?_
    refine go_iconst (nI 1) (pc := 97) dX11_doAct_97 (by decide) ?_
    first | with_reducible refine go_iaddN (pc := 98) dX11_doAct_98 ?_ | refine go_iadd (pc := 98) dX11_doAct_98 ?_
    refine go_iconst (nI 1) (pc := 99) dX11_doAct_99 (by decide) ?_
    refine go_callV ml_X11_285 mt_X8_number (pc := 100) dX11_doAct_100 (c_X8_number hT (by decide) (by omega) (dig1 (fAct_d hf1 (by omega)).1)) (by first | rfl | (apply zL_cq <;> assumption) | (apply zR_cq <;> assumption)) rfl (by first | rfl | (apply zL_in <;> first | assumption | decide) | (apply zR_in <;> first | assumption | decide)) (by decide) (by decide) rfl rfl (Nat.le_of_ble_eq_true rfl) (fun r σ' hp => ?_)
    obtain ⟨rfl, hσ⟩ := hp
    rw [hσ]
    clear hσ σ'
    dsimp only [zRet]
    rw [tNum_1]
    have hd1 := (fAct_d hf1 (by omega)).1
    refine go_callV ml_X11_217 mt_X1_pass (pc := 103) dX11_doAct_103 (c_X1_pass hW (by omega) (by omega)) (by first | rfl | (apply zL_cq <;> assumption) | (apply zR_cq <;> assumption)) rfl (by first | rfl | (apply zL_in <;> first | assumption | decide) | (apply zR_in <;> first | assumption | decide)) (by decide) (by decide) rfl rfl (Nat.le_of_ble_eq_true rfl) (fun r σ' hp => ?_)
    obtain ⟨rfl, hE5, hE6, hE4, hW2, hf2⟩ := hp
    dsimp only [zRet]
    have hC2 := hC.setW hz hR14 hf2 hW2
    refine go_ireturn (pc := 106) dX11_doAct_106 rfl ?_
    rw [dAct_w h22]
    exact ⟨rfl, hC2, kr, hz, hf2⟩
  · exfalso
    omega

theorem dAct_b {V : zV} {f ρ : Nat → Nat} {p : Nat} (hV : VOK V) (hok : RowOK (vN V) ρ) (h1 : ρ 27 + 9 < 2 ^ 28) (h2 : ρ 28 + 648 < 2 ^ 28) (hd : f p = 119 → f (p + 1) ≤ 57) : (dAct V f ρ p).2 27 ≤ ρ 27 + 9 ∧ (dAct V f ρ p).2 28 ≤ ρ 28 + 648 := by
  have hn := hV.2.1
  unfold dAct
  split
  · rename_i hp
    have := hd hp
    obtain ⟨a1, a2, a3, a4, -, -, -⟩ := wks_ok hV hok (f (p + 1) - 48) (by omega) (by omega)
    try dsimp only
    omega
  · split
    · unfold aGuard; split
      · rename_i hc; try dsimp only; rw [va_at', if_neg (by omega), va_at', if_neg (by omega)]; omega
      · try dsimp only; omega
    · split
      · unfold aPlant; split
        · rename_i hc; split
          · try dsimp only; omega
          · try dsimp only; rw [va_at', if_neg (by omega), va_at', if_neg (by omega)]; omega
        · try dsimp only; omega
      · split
        · unfold aGate; split
          · rename_i hc
            have e : ∀ i, 25 ≤ i → gateT ρ (nI (f (p + 1) - 97)).toInt.toNat i = ρ i := fun i hi => by
              unfold gateT
              rw [va_at', if_neg (by omega)]
              split
              · rfl
              · rw [va_at', if_neg (by omega)]
            try dsimp only
            rw [e 27 (by decide), e 28 (by decide)]; omega
          · try dsimp only; omega
        · generalize nI (if f p = 99 then 0 else 1) = w
          unfold aPrice
          split
          · rename_i hc; try dsimp only; rw [va_at', if_neg (by omega), va_at', if_neg (by omega)]; omega
          · try dsimp only; omega

def logE (V : zV) (f : Nat → Nat) (L : Nat) (ρ : Nat → Nat) : Nat × Nat × (Nat → Nat) := logX V f L 61 0 ρ 0

theorem logR_b {f : Nat → Nat} {lim : Nat} : ∀ {k p q : Nat}, logR f lim k p = some q → q ≤ lim := by
  intro k
  induction k with
  | zero => intro p q h; cases h
  | succ k ih =>
    intro p q h
    unfold logR at h
    split at h
    · cases h
    · rename_i hp
      split at h
      · cases h; exact aOne_f (by omega)
      · exact ih h
theorem logF_b {L : Nat} {f : Nat → Nat} {q : Nat} (h : logF L f = some q) : q < 2 ^ 30 := by
  unfold logF at h
  split at h
  · rename_i q2 hq
    cases h
    have := logR_b hq
    omega
  · split at h
    · cases h; decide
    · cases h

set_option maxRecDepth 4000 in
theorem c_X11_log {E : zE} {σ : zT} {tx : Nat × (Nat → Nat)} {bd : Nat × (Nat → Nat) × (Nat → Nat)} {sk : Nat × (Nat → Nat)} {tw : Nat × (Nat → Nat) × (Nat → Nat)} {xs : List Nat} {ld : Nat × (Nat → Nat)} {pa sh : Nat × (Nat → Nat → Nat)} {ru : Nat × (Nat → Nat) × (Nat → Nat)} {to : Nat × (Nat → Int64)} (hC : ClsIs σ tx bd sk tw xs ld pa sh ru to) (hro : Roomy ld.2) : CalM E 8 yX11_log cX11_log 6 (some .int) [.ref (zA E 0 0)] σ (fun r σ' => r = some (.int (match logF tx.1 tx.2 with | none => nI (logE (vOf bd sk xs ld.1) tx.2 tx.1 ld.2).1 | some q => mF q)) ∧ ClsIs σ' (0, tx.2) bd sk tw xs (match logF tx.1 tx.2 with | none => (ld.1, (logE (vOf bd sk xs ld.1) tx.2 tx.1 ld.2).2.2) | some _ => ld) (match logF tx.1 tx.2 with | none => (if 0 < (logE (vOf bd sk xs ld.1) tx.2 tx.1 ld.2).1 then (min (pa.1 + 1) 15, pushH pa.2 pa.1 ld.2) else pa) | some _ => pa) sh ru (match logF tx.1 tx.2 with | none => (2, ln2 (lN (logE (vOf bd sk xs ld.1) tx.2 tx.1 ld.2).2.1) (lN ((logE (vOf bd sk xs ld.1) tx.2 tx.1 ld.2).2.2 28))) | some _ => to) ∧ Fr33 σ σ') := by
  refine cal_of_go (own := RX11) rfl (by decide +kernel) (Nat.le_of_ble_eq_true rfl) ?_
  have hL := hC.2.2.2.2.2.1
  have hn := hL.b
  have hok := hL.1
  have hB0 := hC.2.2.1
  have hnc := hB0.1
  have hT := hC.2.1
  have hT80 := hT.2.1
  obtain ⟨kr0, hkr0, hz0, hR140, hW0⟩ := hC.w (kl := 6) rfl hL
  have hV := hW0.vok
  have hlb : ∀ q, logF tx.1 tx.2 = some q → q < 2 ^ 30 := fun q h => logF_b h
  have fin : ∀ (n rf p t : Nat) (ρ : Nat → Nat) (τ : zT), n < 100 → rf < 2 → logE (vOf bd sk xs ld.1) tx.2 tx.1 ld.2 = (n, rf, ρ) → ClsIs τ tx bd sk tw xs (ld.1, ρ) pa sh ru to → LandIs τ 8 ld.1 ld.2 → Fr33 σ τ → GoM E 8 RX11 cX11_log 6 (some .int) (fun r σ' => r = some (.int (nI (logE (vOf bd sk xs ld.1) tx.2 tx.1 ld.2).1)) ∧ ClsIs σ' (0, tx.2) bd sk tw xs (ld.1, (logE (vOf bd sk xs ld.1) tx.2 tx.1 ld.2).2.2) (if 0 < (logE (vOf bd sk xs ld.1) tx.2 tx.1 ld.2).1 then (min (pa.1 + 1) 15, pushH pa.2 pa.1 ld.2) else pa) sh ru (2, ln2 (lN (logE (vOf bd sk xs ld.1) tx.2 tx.1 ld.2).2.1) (lN ((logE (vOf bd sk xs ld.1) tx.2 tx.1 ld.2).2.2 28))) ∧ Fr33 σ σ') τ 105 [(0, .ref (zA E 0 0)), (1, .int (-1)), (2, .int (nI n)), (3, .int (nI rf)), (4, .int (nI p)), (5, .int (nI t))] [] := by
    intro n rf p t ρ τ hn1 hrf hx hCt hb hF
    obtain ⟨nx, hP⟩ := hCt.2.2.2.2.2.2.1
    have h28 : ρ 28 < 2 ^ 28 := hCt.2.2.2.2.2.1.1.2.2.2.2.2.2.2
    refine go_iload_n (i := 2) (pc := 105) dX11_log_105 rfl rfl ?_
    refine go_if_le 120 (pc := 106) dX11_log_106 (by decide) (fun h106 => ?_) (fun h106 => ?_)
    · first | rw [zb_0d] at h106 | rw [zn_le0 (by omega)] at h106 | rw [zi_le0] at h106
      have e0 : ¬ 0 < n := by omega
      have hC3 := hCt
      have hF3 := hF
      refine go_aload_n (i := 0) (pc := 120) dX11_log_120 rfl rfl ?_
      refine go_getr2 fl_X11_10 (pc := 121) dX11_log_121 (by first | rfl | (apply zL_ci <;> assumption) | (apply zR_ci <;> assumption)) (by first | rfl | (apply zL_in <;> first | assumption | decide) | (apply zR_in <;> first | assumption | decide)) (by first | rfl | (apply zL_fr0 <;> assumption) | (apply zL_fr1 <;> assumption) | (apply zR_fr0 <;> assumption) | (apply zR_fr1 <;> assumption) | (apply zR_fr2 <;> assumption) | (apply zR_fr3 <;> assumption)) ?_
      refine go_callV ml_X11_126 mt_X8_clear (pc := 124) dX11_log_124 (c_X8_clear) (by first | rfl | (apply zL_cq <;> assumption) | (apply zR_cq <;> assumption)) rfl (by first | rfl | (apply zL_in <;> first | assumption | decide) | (apply zR_in <;> first | assumption | decide)) (by decide) (by decide) rfl rfl (Nat.le_of_ble_eq_true rfl) (fun r σ' hp => ?_)
      obtain ⟨rfl, rfl⟩ := hp
      dsimp only [zRet]
      have hC4 := hC3.noT
      have hF4 := hF3.tr (Fr33.of (FrG.rf.uS (S := [1]) (k := 1) (f := 1) (v := nI 0) (by simp)) (by simp))
      refine go_aload_n (i := 0) (pc := 127) dX11_log_127 rfl rfl ?_
      refine go_getr2 fl_X11_83 (pc := 128) dX11_log_128 (by first | rfl | (apply zL_ci <;> assumption) | (apply zR_ci <;> assumption)) (by first | rfl | (apply zL_in <;> first | assumption | decide) | (apply zR_in <;> first | assumption | decide)) (by first | rfl | (apply zL_fr0 <;> assumption) | (apply zL_fr1 <;> assumption) | (apply zR_fr0 <;> assumption) | (apply zR_fr1 <;> assumption) | (apply zR_fr2 <;> assumption) | (apply zR_fr3 <;> assumption)) ?_
      refine go_iload_n (i := 3) (pc := 131) dX11_log_131 rfl rfl ?_
      refine go_i2l (pc := 132) dX11_log_132 ?_
      rw [nI_l (by omega)]
      refine go_aload_n (i := 0) (pc := 133) dX11_log_133 rfl rfl ?_
      refine go_getr2 fl_X11_49 (pc := 134) dX11_log_134 (by first | rfl | (apply zL_ci <;> assumption) | (apply zR_ci <;> assumption)) (by first | rfl | (apply zL_in <;> first | assumption | decide) | (apply zR_in <;> first | assumption | decide)) (by first | rfl | (apply zL_fr0 <;> assumption) | (apply zL_fr1 <;> assumption) | (apply zR_fr0 <;> assumption) | (apply zR_fr1 <;> assumption) | (apply zR_fr2 <;> assumption) | (apply zR_fr3 <;> assumption)) ?_
      refine go_callV ml_X11_239 mt_X2_over (pc := 137) dX11_log_137 (c_X2_over rfl hC4.2.2.2.2.2.1) (by first | rfl | (apply zL_cq <;> assumption) | (apply zR_cq <;> assumption)) rfl (by first | rfl | (apply zL_in <;> first | assumption | decide) | (apply zR_in <;> first | assumption | decide)) (by decide) (by decide) rfl rfl (Nat.le_of_ble_eq_true rfl) (fun r σ' hp => ?_)
      obtain ⟨rfl, hσ⟩ := hp
      rw [hσ]
      clear hσ σ'
      dsimp only [zRet]
      refine go_i2l (pc := 140) dX11_log_140 ?_
      rw [nI_l (by omega)]
      refine go_callV ml_X11_223 mt_X9_two (pc := 141) dX11_log_141 (c_X9_two) (by first | rfl | (apply zL_cq <;> assumption) | (apply zR_cq <;> assumption)) rfl (by first | rfl | (apply zL_in <;> first | assumption | decide) | (apply zR_in <;> first | assumption | decide)) (by decide) (by decide) rfl rfl (Nat.le_of_ble_eq_true rfl) (fun r σ' hp => ?_)
      obtain ⟨rfl, hT4, hf4⟩ := hp
      dsimp only [zRet]
      refine go_iload_n (i := 2) (pc := 144) dX11_log_144 rfl rfl ?_
      refine go_ireturn (pc := 145) dX11_log_145 rfl ?_
      rw [hx]
      first
        | (rw [if_pos e0]; exact ⟨rfl, hC4.setTo (to' := (2, _)) hf4 hT4, hF4.tr (Fr33.of hf4 (by simp))⟩)
        | (rw [if_neg e0]; exact ⟨rfl, hC4.setTo (to' := (2, _)) hf4 hT4, hF4.tr (Fr33.of hf4 (by simp))⟩)
    · first | rw [zb_0d] at h106 | rw [zn_le0 (by omega)] at h106 | rw [zi_le0] at h106
      have e0 : 0 < n := by omega
      refine go_aload_n (i := 0) (pc := 109) dX11_log_109 rfl rfl ?_
      refine go_getr2 fl_X11_62 (pc := 110) dX11_log_110 (by first | rfl | (apply zL_ci <;> assumption) | (apply zR_ci <;> assumption)) (by first | rfl | (apply zL_in <;> first | assumption | decide) | (apply zR_in <;> first | assumption | decide)) (by first | rfl | (apply zL_fr0 <;> assumption) | (apply zL_fr1 <;> assumption) | (apply zR_fr0 <;> assumption) | (apply zR_fr1 <;> assumption) | (apply zR_fr2 <;> assumption) | (apply zR_fr3 <;> assumption)) ?_
      refine go_aload_n (i := 0) (pc := 113) dX11_log_113 rfl rfl ?_
      refine go_getr2 fl_X11_56 (pc := 114) dX11_log_114 (by first | rfl | (apply zL_ci <;> assumption) | (apply zR_ci <;> assumption)) (by first | rfl | (apply zL_in <;> first | assumption | decide) | (apply zR_in <;> first | assumption | decide)) (by first | rfl | (apply zL_fr0 <;> assumption) | (apply zL_fr1 <;> assumption) | (apply zR_fr0 <;> assumption) | (apply zR_fr1 <;> assumption) | (apply zR_fr2 <;> assumption) | (apply zR_fr3 <;> assumption)) ?_
      refine go_callV ml_X11_236 mt_X3_push (pc := 117) dX11_log_117 (c_X3_push hP rfl hb) (by first | rfl | (apply zL_cq <;> assumption) | (apply zR_cq <;> assumption)) rfl (by first | rfl | (apply zL_in <;> first | assumption | decide) | (apply zR_in <;> first | assumption | decide)) (by decide) (by decide) rfl rfl (Nat.le_of_ble_eq_true rfl) (fun r σ' hp => ?_)
      obtain ⟨rfl, hP2, hfp⟩ := hp
      dsimp only [zRet]
      have hC3 := hCt.setP (pa' := (min (pa.1 + 1) 15, pushH pa.2 pa.1 ld.2)) hfp hP2
      have hF3 := hF.tr (Fr33.of hfp (by decide))
      refine go_aload_n (i := 0) (pc := 120) dX11_log_120 rfl rfl ?_
      refine go_getr2 fl_X11_10 (pc := 121) dX11_log_121 (by first | rfl | (apply zL_ci <;> assumption) | (apply zR_ci <;> assumption)) (by first | rfl | (apply zL_in <;> first | assumption | decide) | (apply zR_in <;> first | assumption | decide)) (by first | rfl | (apply zL_fr0 <;> assumption) | (apply zL_fr1 <;> assumption) | (apply zR_fr0 <;> assumption) | (apply zR_fr1 <;> assumption) | (apply zR_fr2 <;> assumption) | (apply zR_fr3 <;> assumption)) ?_
      refine go_callV ml_X11_126 mt_X8_clear (pc := 124) dX11_log_124 (c_X8_clear) (by first | rfl | (apply zL_cq <;> assumption) | (apply zR_cq <;> assumption)) rfl (by first | rfl | (apply zL_in <;> first | assumption | decide) | (apply zR_in <;> first | assumption | decide)) (by decide) (by decide) rfl rfl (Nat.le_of_ble_eq_true rfl) (fun r σ' hp => ?_)
      obtain ⟨rfl, rfl⟩ := hp
      dsimp only [zRet]
      have hC4 := hC3.noT
      have hF4 := hF3.tr (Fr33.of (FrG.rf.uS (S := [1]) (k := 1) (f := 1) (v := nI 0) (by simp)) (by simp))
      refine go_aload_n (i := 0) (pc := 127) dX11_log_127 rfl rfl ?_
      refine go_getr2 fl_X11_83 (pc := 128) dX11_log_128 (by first | rfl | (apply zL_ci <;> assumption) | (apply zR_ci <;> assumption)) (by first | rfl | (apply zL_in <;> first | assumption | decide) | (apply zR_in <;> first | assumption | decide)) (by first | rfl | (apply zL_fr0 <;> assumption) | (apply zL_fr1 <;> assumption) | (apply zR_fr0 <;> assumption) | (apply zR_fr1 <;> assumption) | (apply zR_fr2 <;> assumption) | (apply zR_fr3 <;> assumption)) ?_
      refine go_iload_n (i := 3) (pc := 131) dX11_log_131 rfl rfl ?_
      refine go_i2l (pc := 132) dX11_log_132 ?_
      rw [nI_l (by omega)]
      refine go_aload_n (i := 0) (pc := 133) dX11_log_133 rfl rfl ?_
      refine go_getr2 fl_X11_49 (pc := 134) dX11_log_134 (by first | rfl | (apply zL_ci <;> assumption) | (apply zR_ci <;> assumption)) (by first | rfl | (apply zL_in <;> first | assumption | decide) | (apply zR_in <;> first | assumption | decide)) (by first | rfl | (apply zL_fr0 <;> assumption) | (apply zL_fr1 <;> assumption) | (apply zR_fr0 <;> assumption) | (apply zR_fr1 <;> assumption) | (apply zR_fr2 <;> assumption) | (apply zR_fr3 <;> assumption)) ?_
      refine go_callV ml_X11_239 mt_X2_over (pc := 137) dX11_log_137 (c_X2_over rfl hC4.2.2.2.2.2.1) (by first | rfl | (apply zL_cq <;> assumption) | (apply zR_cq <;> assumption)) rfl (by first | rfl | (apply zL_in <;> first | assumption | decide) | (apply zR_in <;> first | assumption | decide)) (by decide) (by decide) rfl rfl (Nat.le_of_ble_eq_true rfl) (fun r σ' hp => ?_)
      obtain ⟨rfl, hσ⟩ := hp
      rw [hσ]
      clear hσ σ'
      dsimp only [zRet]
      refine go_i2l (pc := 140) dX11_log_140 ?_
      rw [nI_l (by omega)]
      refine go_callV ml_X11_223 mt_X9_two (pc := 141) dX11_log_141 (c_X9_two) (by first | rfl | (apply zL_cq <;> assumption) | (apply zR_cq <;> assumption)) rfl (by first | rfl | (apply zL_in <;> first | assumption | decide) | (apply zR_in <;> first | assumption | decide)) (by decide) (by decide) rfl rfl (Nat.le_of_ble_eq_true rfl) (fun r σ' hp => ?_)
      obtain ⟨rfl, hT4, hf4⟩ := hp
      dsimp only [zRet]
      refine go_iload_n (i := 2) (pc := 144) dX11_log_144 rfl rfl ?_
      refine go_ireturn (pc := 145) dX11_log_145 rfl ?_
      rw [hx]
      first
        | (rw [if_pos e0]; exact ⟨rfl, hC4.setTo (to' := (2, _)) hf4 hT4, hF4.tr (Fr33.of hf4 (by simp))⟩)
        | (rw [if_neg e0]; exact ⟨rfl, hC4.setTo (to' := (2, _)) hf4 hT4, hF4.tr (Fr33.of hf4 (by simp))⟩)
  have main : tx.1 ≤ 60 → logQ tx.1 tx.2 = none → ∀ (t p : Nat) (ρ : Nat → Nat) (τ : zT), t ≤ 60 → 2 * t ≤ p → p ≤ tx.1 → logR tx.2 tx.1 (61 - t) p = none → logE (vOf bd sk xs ld.1) tx.2 tx.1 ld.2 = logX (vOf bd sk xs ld.1) tx.2 tx.1 (61 - t) p ρ t → ρ 27 ≤ ld.2 27 + 9 * t → ρ 28 ≤ ld.2 28 + 648 * t → ClsIs τ tx bd sk tw xs (ld.1, ρ) pa sh ru to → LandIs τ 8 ld.1 ld.2 → Fr33 σ τ → GoM E 8 RX11 cX11_log 6 (some .int) (fun r σ' => r = some (.int (nI (logE (vOf bd sk xs ld.1) tx.2 tx.1 ld.2).1)) ∧ ClsIs σ' (0, tx.2) bd sk tw xs (ld.1, (logE (vOf bd sk xs ld.1) tx.2 tx.1 ld.2).2.2) (if 0 < (logE (vOf bd sk xs ld.1) tx.2 tx.1 ld.2).1 then (min (pa.1 + 1) 15, pushH pa.2 pa.1 ld.2) else pa) sh ru (2, ln2 (lN (logE (vOf bd sk xs ld.1) tx.2 tx.1 ld.2).2.1) (lN ((logE (vOf bd sk xs ld.1) tx.2 tx.1 ld.2).2.2 28))) ∧ Fr33 σ σ') τ 42 [(0, .ref (zA E 0 0)), (1, .int (-1)), (2, .int (nI t)), (3, .int (nI 0)), (4, .int (nI p)), (5, .int (nI t))] [] := by
    intro h60 hq t
    induction hj : 61 - t using Nat.strongRecOn generalizing t with
    | ind z ih =>
      intro p ρ τ ht h2 hp hlr hlx hr27 hr28 hCt hb hF
      have hLt := hCt.2.2.2.2.2.1
      refine go_iload (pc := 42) dX11_log_42 rfl ?_
      refine go_bipush (nI 60) (pc := 44) dX11_log_44 (by decide) ?_
      refine go_icmp_ge 105 (pc := 46) dX11_log_46 (by decide) (fun h46 => ?_) (fun h46 => ?_)
      · first | rw [nI_leI (by omega) (by omega)] at h46 | rw [zi_leN (by omega)] at h46 | rw [zi_Nle (by omega)] at h46 | rw [zi_le] at h46
        exfalso
        omega
      · first | rw [nI_leI (by omega) (by omega)] at h46 | rw [zi_leN (by omega)] at h46 | rw [zi_Nle (by omega)] at h46 | rw [zi_le] at h46
        refine go_iload (pc := 49) dX11_log_49 rfl ?_
        refine go_aload_n (i := 0) (pc := 51) dX11_log_51 rfl rfl ?_
        refine go_getr2 fl_X11_10 (pc := 52) dX11_log_52 (by first | rfl | (apply zL_ci <;> assumption) | (apply zR_ci <;> assumption)) (by first | rfl | (apply zL_in <;> first | assumption | decide) | (apply zR_in <;> first | assumption | decide)) (by first | rfl | (apply zL_fr0 <;> assumption) | (apply zL_fr1 <;> assumption) | (apply zR_fr0 <;> assumption) | (apply zR_fr1 <;> assumption) | (apply zR_fr2 <;> assumption) | (apply zR_fr3 <;> assumption)) ?_
        refine go_callV ml_X11_108 mt_X8_size (pc := 55) dX11_log_55 (c_X8_size hCt.2.1) (by first | rfl | (apply zL_cq <;> assumption) | (apply zR_cq <;> assumption)) rfl (by first | rfl | (apply zL_in <;> first | assumption | decide) | (apply zR_in <;> first | assumption | decide)) (by decide) (by decide) rfl rfl (Nat.le_of_ble_eq_true rfl) (fun r σ' hp => ?_)
        obtain ⟨rfl, hσ⟩ := hp
        rw [hσ]
        clear hσ σ'
        dsimp only [zRet]
        refine go_icmp_ge 105 (pc := 58) dX11_log_58 (by decide) (fun h58 => ?_) (fun h58 => ?_)
        · first | rw [nI_leI (by omega) (by omega)] at h58 | rw [zi_leN (by omega)] at h58 | rw [zi_Nle (by omega)] at h58 | rw [zi_le] at h58
          have hx : logE (vOf bd sk xs ld.1) tx.2 tx.1 ld.2 = (t, 0, ρ) := by rw [hlx, show z = z - 1 + 1 by omega, logX, if_pos (by omega)]
          exact fin t 0 p t ρ _ (by omega) (by omega) hx hCt hb hF
        · first | rw [nI_leI (by omega) (by omega)] at h58 | rw [zi_leN (by omega)] at h58 | rw [zi_Nle (by omega)] at h58 | rw [zi_le] at h58
          refine go_iload_n (i := 3) (pc := 61) dX11_log_61 rfl rfl ?_
          refine go_if_ne 105 (pc := 62) dX11_log_62 (by decide) (fun h62 => ?_) (fun h62 => ?_)
          · first | rw [zb_0d] at h62 | rw [zn_eq0 (by omega)] at h62 | rw [zi_eq0] at h62
            exact absurd rfl h62
          · first | rw [zb_0d] at h62 | rw [zn_eq0 (by omega)] at h62 | rw [zi_eq0] at h62
            rw [show z = z - 1 + 1 by omega, logR, if_neg (by omega)] at hlr
            have ha1 : (aOne tx.2 tx.1 p).1 = true := by
              rcases Bool.eq_false_or_eq_true (aOne tx.2 tx.1 p).1 with e | e
              · exact e
              · rw [if_pos e] at hlr; cases hlr
            rw [if_neg (by rw [ha1]; decide)] at hlr
            obtain ⟨q1, q2, q3, q4⟩ := aOne_t ha1
            rw [q1] at hlr
            have hvp := (hT.2.2 p (by omega)).2
            rw [show z = z - 1 + 1 by omega, logX, if_neg (by omega)] at hlx
            have hdb := dAct_b (V := vOf bd sk xs ld.1) (f := tx.2) (ρ := ρ) (p := p) hV hLt.1 (by omega) (by omega) (fun e => by have := (fAct_d q3 (by omega)).1; omega)
            refine go_aload_n (i := 0) (pc := 65) dX11_log_65 rfl rfl ?_
            refine go_iload (pc := 66) dX11_log_66 rfl ?_
            refine go_callV ml_X11_230 mt_X11_doAct (pc := 68) dX11_log_68 (c_X11_doAct (ld := (ld.1, ρ)) hCt ha1 h60 (by show ρ 27 + 9 < _; omega) (by show ρ 28 + 648 < _; omega)) (by first | rfl | (apply zL_cq <;> assumption) | (apply zR_cq <;> assumption)) rfl (by first | rfl | (apply zL_in <;> first | assumption | decide) | (apply zR_in <;> first | assumption | decide)) (by decide) (by decide) rfl rfl (Nat.le_of_ble_eq_true rfl) (fun r σ' hp => ?_)
            obtain ⟨rfl, hC2, kr, hz, hf⟩ := hp
            dsimp only [zRet]
            have hkr := zR_or hz
            have hb2 := hb.fr hf (by simp; omega)
            have hF2 := hF.tr (Fr33.of hf (by simp; omega))
            have hT2 := hC2.2.1
            refine go_if_ge 79 (pc := 71) dX11_log_71 (by decide) (fun h71 => ?_) (fun h71 => ?_)
            · rw [zi_ge0] at h71
              rw [if_neg (show ¬ (dAct (vOf bd sk xs ld.1) tx.2 ρ p).1.toInt < 0 by have : 0 ≤ (dAct (vOf bd sk xs ld.1) tx.2 ρ p).1.toInt := h71; omega)] at hlx
              refine go_iincN (pc := 79) dX11_log_79 rfl (by decide) ?_
              refine go_iload (pc := 82) dX11_log_82 rfl ?_
              refine go_aload_n (i := 0) (pc := 84) dX11_log_84 rfl rfl ?_
              refine go_getr2 fl_X11_10 (pc := 85) dX11_log_85 (by first | rfl | (apply zL_ci <;> assumption) | (apply zR_ci <;> assumption)) (by first | rfl | (apply zL_in <;> first | assumption | decide) | (apply zR_in <;> first | assumption | decide)) (by first | rfl | (apply zL_fr0 <;> assumption) | (apply zL_fr1 <;> assumption) | (apply zR_fr0 <;> assumption) | (apply zR_fr1 <;> assumption) | (apply zR_fr2 <;> assumption) | (apply zR_fr3 <;> assumption)) ?_
              refine go_iload (pc := 88) dX11_log_88 rfl ?_
              refine go_callV ml_X11_130 mt_X8_at (pc := 90) dX11_log_90 (c_X8_at hT2 (by omega)) (by first | rfl | (apply zL_cq <;> assumption) | (apply zR_cq <;> assumption)) rfl (by first | rfl | (apply zL_in <;> first | assumption | decide) | (apply zR_in <;> first | assumption | decide)) (by decide) (by decide) rfl rfl (Nat.le_of_ble_eq_true rfl) (fun r σ' hp => ?_)
              obtain ⟨rfl, hσ⟩ := hp
              rw [hσ]
              clear hσ σ'
              dsimp only [zRet]
              rw [tAt_in (by omega)]
              refine go_callS ml_X11_233 mt_X11_actLength (pc := 93) dX11_log_93 (c_X11_actLength hvp) (by decide) (by decide) rfl rfl (Nat.le_of_ble_eq_true rfl) (fun r σ' hp => ?_)
              obtain ⟨rfl, hσ⟩ := hp
              rw [hσ]
              clear hσ σ'
              dsimp only [zRet]
              first | with_reducible refine go_iaddN (pc := 96) dX11_log_96 ?_ | refine go_iadd (pc := 96) dX11_log_96 ?_
              refine go_istore (pc := 97) dX11_log_97 (by decide) ?_
              refine go_iincN (pc := 99) dX11_log_99 rfl (by decide) ?_
              refine go_goto 42 (pc := 102) dX11_log_102 (by decide) ?_
              first
                | exact ih (z - 1) (by omega) (t + 1) (by omega) _ _ _ (by omega) (by omega) q2 hlr hlx (by omega) (by omega) hC2 hb2 hF2
                | (refine go_iload (pc := 42) dX11_log_42 rfl ?_
                   refine go_bipush (nI 60) (pc := 44) dX11_log_44 (by decide) ?_
                   refine go_icmp_ge 105 (pc := 46) dX11_log_46 (by decide) (fun h46 => ?_) (fun h46 => ?_)
                   · exact fin t 1 _ (t + 1) _ _ (by omega) (by omega) hlx hC2 hb2 hF2
                   · refine go_iload (pc := 49) dX11_log_49 rfl ?_
                     refine go_aload_n (i := 0) (pc := 51) dX11_log_51 rfl rfl ?_
                     refine go_getr2 fl_X11_10 (pc := 52) dX11_log_52 rfl rfl rfl ?_
                     refine go_callV ml_X11_108 mt_X8_size (pc := 55) dX11_log_55 (c_X8_size hT2) rfl rfl rfl (by decide) (by decide) rfl rfl (Nat.le_of_ble_eq_true rfl) (fun r σ' hp => ?_)
                     obtain ⟨rfl, hσ⟩ := hp
                     rw [hσ]
                     clear hσ σ'
                     dsimp only [zRet]
                     refine go_icmp_ge 105 (pc := 58) dX11_log_58 (by decide) (fun h58 => ?_) (fun h58 => ?_)
                     · exact fin t 1 _ (t + 1) _ _ (by omega) (by omega) hlx hC2 hb2 hF2
                     · refine go_iload_n (i := 3) (pc := 61) dX11_log_61 rfl rfl ?_
                       refine go_if_ne 105 (pc := 62) dX11_log_62 (by decide) (fun h62 => ?_) (fun h62 => absurd h62 (by decide))
                       exact fin t 1 _ (t + 1) _ _ (by omega) (by omega) hlx hC2 hb2 hF2)
            · rw [zi_ge0] at h71
              have h71 : ¬ 0 ≤ (dAct (vOf bd sk xs ld.1) tx.2 ρ p).1.toInt := h71
              rw [if_pos (by omega)] at hlx
              refine go_iconst (nI 1) (pc := 74) dX11_log_74 (by decide) ?_
              refine go_istore_n (i := 3) (pc := 75) dX11_log_75 rfl (by decide) ?_
              refine go_goto 82 (pc := 76) dX11_log_76 (by decide) ?_
              refine go_iload (pc := 82) dX11_log_82 rfl ?_
              refine go_aload_n (i := 0) (pc := 84) dX11_log_84 rfl rfl ?_
              refine go_getr2 fl_X11_10 (pc := 85) dX11_log_85 (by first | rfl | (apply zL_ci <;> assumption) | (apply zR_ci <;> assumption)) (by first | rfl | (apply zL_in <;> first | assumption | decide) | (apply zR_in <;> first | assumption | decide)) (by first | rfl | (apply zL_fr0 <;> assumption) | (apply zL_fr1 <;> assumption) | (apply zR_fr0 <;> assumption) | (apply zR_fr1 <;> assumption) | (apply zR_fr2 <;> assumption) | (apply zR_fr3 <;> assumption)) ?_
              refine go_iload (pc := 88) dX11_log_88 rfl ?_
              refine go_callV ml_X11_130 mt_X8_at (pc := 90) dX11_log_90 (c_X8_at hT2 (by omega)) (by first | rfl | (apply zL_cq <;> assumption) | (apply zR_cq <;> assumption)) rfl (by first | rfl | (apply zL_in <;> first | assumption | decide) | (apply zR_in <;> first | assumption | decide)) (by decide) (by decide) rfl rfl (Nat.le_of_ble_eq_true rfl) (fun r σ' hp => ?_)
              obtain ⟨rfl, hσ⟩ := hp
              rw [hσ]
              clear hσ σ'
              dsimp only [zRet]
              rw [tAt_in (by omega)]
              refine go_callS ml_X11_233 mt_X11_actLength (pc := 93) dX11_log_93 (c_X11_actLength hvp) (by decide) (by decide) rfl rfl (Nat.le_of_ble_eq_true rfl) (fun r σ' hp => ?_)
              obtain ⟨rfl, hσ⟩ := hp
              rw [hσ]
              clear hσ σ'
              dsimp only [zRet]
              first | with_reducible refine go_iaddN (pc := 96) dX11_log_96 ?_ | refine go_iadd (pc := 96) dX11_log_96 ?_
              refine go_istore (pc := 97) dX11_log_97 (by decide) ?_
              refine go_iincN (pc := 99) dX11_log_99 rfl (by decide) ?_
              refine go_goto 42 (pc := 102) dX11_log_102 (by decide) ?_
              first
                | exact ih (z - 1) (by omega) (t + 1) (by omega) _ _ _ (by omega) (by omega) q2 hlr hlx (by omega) (by omega) hC2 hb2 hF2
                | (refine go_iload (pc := 42) dX11_log_42 rfl ?_
                   refine go_bipush (nI 60) (pc := 44) dX11_log_44 (by decide) ?_
                   refine go_icmp_ge 105 (pc := 46) dX11_log_46 (by decide) (fun h46 => ?_) (fun h46 => ?_)
                   · exact fin t 1 _ (t + 1) _ _ (by omega) (by omega) hlx hC2 hb2 hF2
                   · refine go_iload (pc := 49) dX11_log_49 rfl ?_
                     refine go_aload_n (i := 0) (pc := 51) dX11_log_51 rfl rfl ?_
                     refine go_getr2 fl_X11_10 (pc := 52) dX11_log_52 rfl rfl rfl ?_
                     refine go_callV ml_X11_108 mt_X8_size (pc := 55) dX11_log_55 (c_X8_size hT2) rfl rfl rfl (by decide) (by decide) rfl rfl (Nat.le_of_ble_eq_true rfl) (fun r σ' hp => ?_)
                     obtain ⟨rfl, hσ⟩ := hp
                     rw [hσ]
                     clear hσ σ'
                     dsimp only [zRet]
                     refine go_icmp_ge 105 (pc := 58) dX11_log_58 (by decide) (fun h58 => ?_) (fun h58 => ?_)
                     · exact fin t 1 _ (t + 1) _ _ (by omega) (by omega) hlx hC2 hb2 hF2
                     · refine go_iload_n (i := 3) (pc := 61) dX11_log_61 rfl rfl ?_
                       refine go_if_ne 105 (pc := 62) dX11_log_62 (by decide) (fun h62 => ?_) (fun h62 => absurd h62 (by decide))
                       exact fin t 1 _ (t + 1) _ _ (by omega) (by omega) hlx hC2 hb2 hF2)
  refine go_aload_n (i := 0) (pc := 0) dX11_log_0 rfl rfl ?_
  refine go_callV ml_X11_227 mt_X11_logFault (pc := 1) dX11_log_1 (c_X11_logFault hT) (by first | rfl | (apply zL_cq <;> assumption) | (apply zR_cq <;> assumption)) rfl (by first | rfl | (apply zL_in <;> first | assumption | decide) | (apply zR_in <;> first | assumption | decide)) (by decide) (by decide) rfl rfl (Nat.le_of_ble_eq_true rfl) (fun r σ' hp => ?_)
  obtain ⟨rfl, hσ⟩ := hp
  rw [hσ]
  clear hσ σ'
  dsimp only [zRet]
  refine go_istore_n (i := 1) (pc := 4) dX11_log_4 rfl (by decide) ?_
  refine go_iload_n (i := 1) (pc := 5) dX11_log_5 rfl rfl ?_
  refine go_iconst (-1) (pc := 6) dX11_log_6 (by decide) ?_
  refine go_icmp_eq 21 (pc := 7) dX11_log_7 (by decide) (fun h7 => ?_) (fun h7 => ?_)
  · rw [gM_n (fun q hq => by have := hlb q hq; omega)] at h7
    rw [h7]
    have hFn := h7
    unfold logF at hFn
    have h60 : tx.1 ≤ 60 ∧ logQ tx.1 tx.2 = none := by
      split at hFn
      · cases hFn
      · rename_i hq
        split at hFn
        · cases hFn
        · exact ⟨by omega, hq⟩
    dsimp only [gM]
    refine go_aload_n (i := 0) (pc := 21) dX11_log_21 rfl rfl ?_
    refine go_getr2 fl_X11_56 (pc := 22) dX11_log_22 (by first | rfl | (apply zL_ci <;> assumption) | (apply zR_ci <;> assumption)) (by first | rfl | (apply zL_in <;> first | assumption | decide) | (apply zR_in <;> first | assumption | decide)) (by first | rfl | (apply zL_fr0 <;> assumption) | (apply zL_fr1 <;> assumption) | (apply zR_fr0 <;> assumption) | (apply zR_fr1 <;> assumption) | (apply zR_fr2 <;> assumption) | (apply zR_fr3 <;> assumption)) ?_
    refine go_aload_n (i := 0) (pc := 25) dX11_log_25 rfl rfl ?_
    refine go_getr2 fl_X11_49 (pc := 26) dX11_log_26 (by first | rfl | (apply zL_ci <;> assumption) | (apply zR_ci <;> assumption)) (by first | rfl | (apply zL_in <;> first | assumption | decide) | (apply zR_in <;> first | assumption | decide)) (by first | rfl | (apply zL_fr0 <;> assumption) | (apply zL_fr1 <;> assumption) | (apply zR_fr0 <;> assumption) | (apply zR_fr1 <;> assumption) | (apply zR_fr2 <;> assumption) | (apply zR_fr3 <;> assumption)) ?_
    refine go_callV ml_X11_198 mt_X2_copyFrom (pc := 29) dX11_log_29 (c_X2_copyFrom rfl rfl hL) (by first | rfl | (apply zL_cq <;> assumption) | (apply zR_cq <;> assumption)) rfl (by first | rfl | (apply zL_in <;> first | assumption | decide) | (apply zR_in <;> first | assumption | decide)) (by decide) (by decide) rfl rfl (Nat.le_of_ble_eq_true rfl) (fun r σ' hp => ?_)
    obtain ⟨rfl, hb, hf⟩ := hp
    dsimp only [zRet]
    have hC1 := hC.fr hf (by simp)
    refine go_iconst (nI 0) (pc := 32) dX11_log_32 (by decide) ?_
    refine go_istore_n (i := 2) (pc := 33) dX11_log_33 rfl (by decide) ?_
    refine go_iconst (nI 0) (pc := 34) dX11_log_34 (by decide) ?_
    refine go_istore_n (i := 3) (pc := 35) dX11_log_35 rfl (by decide) ?_
    refine go_iconst (nI 0) (pc := 36) dX11_log_36 (by decide) ?_
    refine go_istore (pc := 37) dX11_log_37 (by decide) ?_
    refine go_iconst (nI 0) (pc := 39) dX11_log_39 (by decide) ?_
    refine go_istore (pc := 40) dX11_log_40 (by decide) ?_
    exact main h60.1 h60.2 0 0 ld.2 _ (by omega) (by omega) (by omega) (by have := h60.2; unfold logQ at this; rw [show min tx.1 60 = tx.1 by omega] at this; exact this) rfl (by omega) (by omega) hC1 hb (Fr33.of hf (by simp))
  · rw [gM_n (fun q hq => by have := hlb q hq; omega)] at h7
    obtain ⟨q, hq⟩ : ∃ q, logF tx.1 tx.2 = some q := by { cases hd : logF tx.1 tx.2 with | none => exact absurd hd h7 | some x => exact ⟨x, rfl⟩ }
    rw [hq]
    dsimp only [gM]
    refine go_aload_n (i := 0) (pc := 10) dX11_log_10 rfl rfl ?_
    refine go_getr2 fl_X11_10 (pc := 11) dX11_log_11 (by first | rfl | (apply zL_ci <;> assumption) | (apply zR_ci <;> assumption)) (by first | rfl | (apply zL_in <;> first | assumption | decide) | (apply zR_in <;> first | assumption | decide)) (by first | rfl | (apply zL_fr0 <;> assumption) | (apply zL_fr1 <;> assumption) | (apply zR_fr0 <;> assumption) | (apply zR_fr1 <;> assumption) | (apply zR_fr2 <;> assumption) | (apply zR_fr3 <;> assumption)) ?_
    refine go_callV ml_X11_126 mt_X8_clear (pc := 14) dX11_log_14 (c_X8_clear) (by first | rfl | (apply zL_cq <;> assumption) | (apply zR_cq <;> assumption)) rfl (by first | rfl | (apply zL_in <;> first | assumption | decide) | (apply zR_in <;> first | assumption | decide)) (by decide) (by decide) rfl rfl (Nat.le_of_ble_eq_true rfl) (fun r σ' hp => ?_)
    obtain ⟨rfl, rfl⟩ := hp
    dsimp only [zRet]
    refine go_iconst (-1) (pc := 17) dX11_log_17 (by decide) ?_
    refine go_iload_n (i := 1) (pc := 18) dX11_log_18 rfl rfl ?_
    first | with_reducible refine go_isubN (pc := 19) dX11_log_19 (by omega) ?_ | refine go_isub (pc := 19) dX11_log_19 ?_
    refine go_ireturn (pc := 20) dX11_log_20 rfl ?_
    exact ⟨rfl, hC.noT, Fr33.of (FrG.rf.uS (S := [1]) (by simp)) (by simp)⟩

