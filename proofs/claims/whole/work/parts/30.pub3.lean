abbrev inB (x : Int32) (n : Nat) : Prop := 0 ≤ x.toInt ∧ x.toInt < (n : Int)
theorem gM_n {e : Option Nat} (h : ∀ q, e = some q → q < 2 ^ 31) : (gM e = -1 ↔ e = none) := by
  cases e with
  | none => exact ⟨fun _ => rfl, fun _ => rfl⟩
  | some x =>
    have := h x rfl
    refine ⟨fun q => ?_, fun q => by cases q⟩
    exfalso
    rw [gM, zi_eq, nI_toInt (by omega), zm1] at q
    omega
section PB3
variable {σ σ' : zT} {tx : Nat × (Nat → Nat)} {bd : Nat × (Nat → Nat) × (Nat → Nat)} {sk : Nat × (Nat → Nat)} {tw : Nat × (Nat → Nat) × (Nat → Nat)} {xs : List Nat} {ld : Nat × (Nat → Nat)} {pa sh : Nat × (Nat → Nat → Nat)} {ru : Nat × (Nat → Nat) × (Nat → Nat)} {to : Nat × (Nat → Int64)}
/-- what looks and changes scratch alone -/
theorem ClsIs.look {S : List Nat} {kr kl : Nat} {V : zV} {ρ' : Nat → Nat} (h : ClsIs σ tx bd sk tw xs ld pa sh ru to) (hkr : zRl kr = true) (hk : σ.2.2.2 14 = kr) (hf : FrG S σ σ') (hS : ∀ a ∈ S, a = 0 ∨ a = 5 ∨ a = 7 ∨ a = 8 ∨ a = kr) (hV : vX V = xs) (hW : WIs σ' kr kl V ρ') : ClsIs σ' tx bd sk tw xs ld pa sh ru to := by
  obtain ⟨-, ⟨ys, e1, hR⟩, -, -, -⟩ := hW
  have e2 : ys = xs := e1.symm.trans hV
  subst e2
  exact h.frR hkr hk hR hf hS
end PB3
/-- what turns c: 0 where it doesn't go -/
def rew (V : zV) (ρ : Nat → Nat) (c : Nat) : Nat := match easy V ρ c with
  | none => 0
  | some (_, x) => if (x : Int) < gain V ρ c then (gain V ρ c - x).toNat else 0
/-- the greatest dear price at which none of the first carriers goes -/
def kpsC (V : zV) (ρ : Nat → Nat) : Nat → Nat
  | 0 => 99
  | c + 1 => match easy V ρ c with
    | none => kpsC V ρ c
    | some (_, x) => min (kpsC V ρ c) (ρ 25 + x / vL V c)
theorem kpsC_n {V : zV} {ρ : Nat → Nat} {c : Nat} (h : easy V ρ c = none) : kpsC V ρ (c + 1) = kpsC V ρ c := by rw [kpsC, h]
theorem kpsC_s {V : zV} {ρ : Nat → Nat} {c b x : Nat} (h : easy V ρ c = some (b, x)) : kpsC V ρ (c + 1) = min (kpsC V ρ c) (ρ 25 + x / vL V c) := by rw [kpsC, h]
theorem kpsC_le (V : zV) (ρ : Nat → Nat) (c : Nat) : kpsC V ρ c ≤ 99 := by
  induction c with
  | zero => exact Nat.le_refl _
  | succ c ih =>
    unfold kpsC
    split
    · exact ih
    · exact Nat.le_trans (Nat.min_le_left _ _) ih

theorem c_X11_danger {E : zE} {σ : zT} {tx : Nat × (Nat → Nat)} {bd : Nat × (Nat → Nat) × (Nat → Nat)} {sk : Nat × (Nat → Nat)} {tw : Nat × (Nat → Nat) × (Nat → Nat)} {xs : List Nat} {ld : Nat × (Nat → Nat)} {pa sh : Nat × (Nat → Nat → Nat)} {ru : Nat × (Nat → Nat) × (Nat → Nat)} {to : Nat × (Nat → Int64)} {c m : Int32} (hC : ClsIs σ tx bd sk tw xs ld pa sh ru to) : CalM E 4 yX11_danger cX11_danger 3 (some .int) [.ref (zA E 0 0), .int c, .int m] σ (fun r σ' => r = some (.int (if inB c bd.1 ∧ inB m ld.1 then dI (dng (vOf bd sk xs ld.1) ld.2 c.toInt.toNat m.toInt.toNat) else -1)) ∧ ClsIs σ' tx bd sk tw xs ld pa sh ru to ∧ Fr33 σ σ') := by
  refine cal_of_go (own := RX11) rfl (by decide +kernel) (Nat.le_of_ble_eq_true rfl) ?_
  have hL := hC.2.2.2.2.2.1
  have hn := hL.b
  have hok := hL.1
  have hB0 := hC.2.2.1
  have hnc := hB0.1
  refine go_aload_n (i := 0) (pc := 0) dX11_danger_0 rfl rfl ?_
  refine go_getr2 fl_X11_19 (pc := 1) dX11_danger_1 (by first | rfl | (apply zL_ci <;> assumption) | (apply zR_ci <;> assumption)) (by first | rfl | (apply zL_in <;> first | assumption | decide) | (apply zR_in <;> first | assumption | decide)) (by first | rfl | (apply zL_fr0 <;> assumption) | (apply zL_fr1 <;> assumption) | (apply zR_fr0 <;> assumption) | (apply zR_fr1 <;> assumption) | (apply zR_fr2 <;> assumption) | (apply zR_fr3 <;> assumption)) ?_
  refine go_iload_n (i := 1) (pc := 4) dX11_danger_4 rfl rfl ?_
  refine go_callV ml_X11_159 mt_X0_has (pc := 5) dX11_danger_5 (c_X0_has hB0) (by first | rfl | (apply zL_cq <;> assumption) | (apply zR_cq <;> assumption)) rfl (by first | rfl | (apply zL_in <;> first | assumption | decide) | (apply zR_in <;> first | assumption | decide)) (by decide) (by decide) rfl rfl (Nat.le_of_ble_eq_true rfl) (fun r σ' hp => ?_)
  obtain ⟨rfl, hσ⟩ := hp
  rw [hσ]
  clear hσ σ'
  dsimp only [zRet]
  refine go_if_eq 22 (pc := 8) dX11_danger_8 (by decide) (fun h8 => ?_) (fun h8 => ?_)
  · first | rw [zb_0d] at h8 | rw [zn_eq0 (by omega)] at h8 | rw [zi_eq0] at h8
    refine go_iconst (-1) (pc := 22) dX11_danger_22 (by decide) ?_
    refine go_ireturn (pc := 23) dX11_danger_23 rfl ?_
    rw [if_neg (by first | exact fun q => h8 q.1 | exact fun q => h19 q.2)]
    exact ⟨rfl, hC, Fr33.rf⟩
  · first | rw [zb_0d] at h8 | rw [zn_eq0 (by omega)] at h8 | rw [zi_eq0] at h8
    have h8 : 0 ≤ c.toInt ∧ c.toInt < (bd.1 : Int) := Decidable.not_not.mp h8
    refine go_aload_n (i := 0) (pc := 11) dX11_danger_11 rfl rfl ?_
    refine go_getr2 fl_X11_49 (pc := 12) dX11_danger_12 (by first | rfl | (apply zL_ci <;> assumption) | (apply zR_ci <;> assumption)) (by first | rfl | (apply zL_in <;> first | assumption | decide) | (apply zR_in <;> first | assumption | decide)) (by first | rfl | (apply zL_fr0 <;> assumption) | (apply zL_fr1 <;> assumption) | (apply zR_fr0 <;> assumption) | (apply zR_fr1 <;> assumption) | (apply zR_fr2 <;> assumption) | (apply zR_fr3 <;> assumption)) ?_
    refine go_iload_n (i := 2) (pc := 15) dX11_danger_15 rfl rfl ?_
    refine go_callV ml_X11_144 mt_X2_has (pc := 16) dX11_danger_16 (c_X2_has rfl hL) (by first | rfl | (apply zL_cq <;> assumption) | (apply zR_cq <;> assumption)) rfl (by first | rfl | (apply zL_in <;> first | assumption | decide) | (apply zR_in <;> first | assumption | decide)) (by decide) (by decide) rfl rfl (Nat.le_of_ble_eq_true rfl) (fun r σ' hp => ?_)
    obtain ⟨rfl, hσ⟩ := hp
    rw [hσ]
    clear hσ σ'
    dsimp only [zRet]
    refine go_if_ne 24 (pc := 19) dX11_danger_19 (by decide) (fun h19 => ?_) (fun h19 => ?_)
    · first | rw [zb_0d] at h19 | rw [zn_eq0 (by omega)] at h19 | rw [zi_eq0] at h19
      have h19 : 0 ≤ m.toInt ∧ m.toInt < (ld.1 : Int) := Decidable.not_not.mp h19
      rw [if_pos (show inB c bd.1 ∧ inB m ld.1 from ⟨h8, h19⟩)]
      obtain ⟨kr, hkr, hz, hR14, hW⟩ := hC.w (kl := 6) rfl hL
      have ec1 := nI_of' (x := c) (by omega)
      generalize hqc1 : c.toInt.toNat = c1 at ec1 ⊢
      have hc1 : c1 < bd.1 := by omega
      subst ec1
      have em1 := nI_of' (x := m) (by omega)
      generalize hqm1 : m.toInt.toNat = m1 at em1 ⊢
      have hm1 : m1 < ld.1 := by omega
      subst em1
      refine go_aload_n (i := 0) (pc := 24) dX11_danger_24 rfl rfl ?_
      refine go_getr2 fl_X11_42 (pc := 25) dX11_danger_25 (by first | rfl | (apply zL_ci <;> assumption) | (apply zR_ci <;> assumption)) (by first | rfl | (apply zL_in <;> first | assumption | decide) | (apply zR_in <;> first | assumption | decide)) (by first | rfl | (apply zL_fr0 <;> assumption) | (apply zL_fr1 <;> assumption) | (apply zR_fr0 <;> assumption) | (apply zR_fr1 <;> assumption) | (apply zR_fr2 <;> assumption) | (apply zR_fr3 <;> assumption)) ?_
      refine go_aload_n (i := 0) (pc := 28) dX11_danger_28 rfl rfl ?_
      refine go_getR fl_X11_97 (pc := 29) dX11_danger_29 rfl ?_
      rw [hR14]
      refine go_aload_n (i := 0) (pc := 32) dX11_danger_32 rfl rfl ?_
      refine go_getr2 fl_X11_49 (pc := 33) dX11_danger_33 (by first | rfl | (apply zL_ci <;> assumption) | (apply zR_ci <;> assumption)) (by first | rfl | (apply zL_in <;> first | assumption | decide) | (apply zR_in <;> first | assumption | decide)) (by first | rfl | (apply zL_fr0 <;> assumption) | (apply zL_fr1 <;> assumption) | (apply zR_fr0 <;> assumption) | (apply zR_fr1 <;> assumption) | (apply zR_fr2 <;> assumption) | (apply zR_fr3 <;> assumption)) ?_
      refine go_iload_n (i := 1) (pc := 36) dX11_danger_36 rfl rfl ?_
      refine go_iload_n (i := 2) (pc := 37) dX11_danger_37 rfl rfl ?_
      refine go_callV ml_X11_183 mt_X1_dangerOf (pc := 38) dX11_danger_38 (c_X1_dangerOf hW hc1 hm1) (by first | rfl | (apply zL_cq <;> assumption) | (apply zR_cq <;> assumption)) rfl (by first | rfl | (apply zL_in <;> first | assumption | decide) | (apply zR_in <;> first | assumption | decide)) (by decide) (by decide) rfl rfl (Nat.le_of_ble_eq_true rfl) (fun r σ' hp => ?_)
      obtain ⟨rfl, hW2, hf⟩ := hp
      dsimp only [zRet]
      have hC2 := hC.look hz hR14 hf (by simp) rfl hW2
      refine go_ireturn (pc := 41) dX11_danger_41 rfl ?_
      exact ⟨rfl, hC2, Fr33.of hf (by simp; omega)⟩
    · first | rw [zb_0d] at h19 | rw [zn_eq0 (by omega)] at h19 | rw [zi_eq0] at h19
      refine go_iconst (-1) (pc := 22) dX11_danger_22 (by decide) ?_
      refine go_ireturn (pc := 23) dX11_danger_23 rfl ?_
      rw [if_neg (by first | exact fun q => h8 q.1 | exact fun q => h19 q.2)]
      exact ⟨rfl, hC, Fr33.rf⟩

theorem c_X11_rewardOf {E : zE} {σ : zT} {tx : Nat × (Nat → Nat)} {bd : Nat × (Nat → Nat) × (Nat → Nat)} {sk : Nat × (Nat → Nat)} {tw : Nat × (Nat → Nat) × (Nat → Nat)} {xs : List Nat} {ld : Nat × (Nat → Nat)} {pa sh : Nat × (Nat → Nat → Nat)} {ru : Nat × (Nat → Nat) × (Nat → Nat)} {to : Nat × (Nat → Int64)} {c : Nat} (hC : ClsIs σ tx bd sk tw xs ld pa sh ru to) (hc : c < bd.1) : CalM E 5 yX11_rewardOf cX11_rewardOf 2 (some .int) [.ref (zA E 0 0), .int (nI c)] σ (fun r σ' => r = some (.int (nI (rew (vOf bd sk xs ld.1) ld.2 c))) ∧ ClsIs σ' tx bd sk tw xs ld pa sh ru to ∧ (∃ kr, zRl kr = true ∧ FrG [kr, 5] σ σ')) := by
  refine cal_of_go (own := RX11) rfl (by decide +kernel) (Nat.le_of_ble_eq_true rfl) ?_
  have hL := hC.2.2.2.2.2.1
  have hn := hL.b
  have hok := hL.1
  have hB0 := hC.2.2.1
  have hnc := hB0.1
  obtain ⟨kr, hkr, hz, hR14, hW⟩ := hC.w (kl := 6) rfl hL
  refine go_aload_n (i := 0) (pc := 0) dX11_rewardOf_0 rfl rfl ?_
  refine go_getr2 fl_X11_42 (pc := 1) dX11_rewardOf_1 (by first | rfl | (apply zL_ci <;> assumption) | (apply zR_ci <;> assumption)) (by first | rfl | (apply zL_in <;> first | assumption | decide) | (apply zR_in <;> first | assumption | decide)) (by first | rfl | (apply zL_fr0 <;> assumption) | (apply zL_fr1 <;> assumption) | (apply zR_fr0 <;> assumption) | (apply zR_fr1 <;> assumption) | (apply zR_fr2 <;> assumption) | (apply zR_fr3 <;> assumption)) ?_
  refine go_aload_n (i := 0) (pc := 4) dX11_rewardOf_4 rfl rfl ?_
  refine go_getR fl_X11_97 (pc := 5) dX11_rewardOf_5 rfl ?_
  rw [hR14]
  refine go_aload_n (i := 0) (pc := 8) dX11_rewardOf_8 rfl rfl ?_
  refine go_getr2 fl_X11_49 (pc := 9) dX11_rewardOf_9 (by first | rfl | (apply zL_ci <;> assumption) | (apply zR_ci <;> assumption)) (by first | rfl | (apply zL_in <;> first | assumption | decide) | (apply zR_in <;> first | assumption | decide)) (by first | rfl | (apply zL_fr0 <;> assumption) | (apply zL_fr1 <;> assumption) | (apply zR_fr0 <;> assumption) | (apply zR_fr1 <;> assumption) | (apply zR_fr2 <;> assumption) | (apply zR_fr3 <;> assumption)) ?_
  refine go_iload_n (i := 1) (pc := 12) dX11_rewardOf_12 rfl rfl ?_
  refine go_callV ml_X11_166 mt_X1_goal (pc := 13) dX11_rewardOf_13 (c_X1_goal hW hc) (by first | rfl | (apply zL_cq <;> assumption) | (apply zR_cq <;> assumption)) rfl (by first | rfl | (apply zL_in <;> first | assumption | decide) | (apply zR_in <;> first | assumption | decide)) (by decide) (by decide) rfl rfl (Nat.le_of_ble_eq_true rfl) (fun r σ' hp => ?_)
  obtain ⟨rfl, hD, hW2, hf, hf5⟩ := hp
  dsimp only [zRet]
  have hC2 := hC.look hz hR14 hf (by simp) rfl hW2
  have hV := hW.vok
  have hl9 := (hV.2.2.2.1 c hc).2.2
  refine go_iconst (-1) (pc := 16) dX11_rewardOf_16 (by decide) ?_
  refine go_icmp_ne 22 (pc := 17) dX11_rewardOf_17 (by decide) (fun h17 => ?_) (fun h17 => ?_)
  · rw [gM_n (fun q hq => by have h9 : q < ld.1 := gos_lt hV hok hq; omega)] at h17
    obtain ⟨m, hm⟩ : ∃ b, gos (vOf bd sk xs ld.1) ld.2 c = some b := by { cases hd : gos (vOf bd sk xs ld.1) ld.2 c with | none => exact absurd hd h17 | some x => exact ⟨x, rfl⟩ }
    have hx : ∃ x, easy (vOf bd sk xs ld.1) ld.2 c = some (m, x) ∧ (x : Int) < gain (vOf bd sk xs ld.1) ld.2 c := by
      cases he : easy (vOf bd sk xs ld.1) ld.2 c with
      | none => rw [gos_none he] at hm; cases hm
      | some q =>
        obtain ⟨b, x⟩ := q
        rw [gos_some he] at hm
        by_cases hg : (x : Int) < gain (vOf bd sk xs ld.1) ld.2 c
        · rw [if_pos hg] at hm; cases hm; exact ⟨x, rfl, hg⟩
        · rw [if_neg hg] at hm; cases hm
    obtain ⟨x, he, hg⟩ := hx
    have hx9 : x ≤ 999 := (saf_lt hV hok he).2
    have hgb := gain_b hl9 hok.2.2.2.2.1 hok.2.2.2.2.2.1
    have er : gI (vOf bd sk xs ld.1) ld.2 c - nI x = nI (rew (vOf bd sk xs ld.1) ld.2 c) := by
      have hr : rew (vOf bd sk xs ld.1) ld.2 c = (gain (vOf bd sk xs ld.1) ld.2 c - x).toNat := by
        unfold rew
        rw [he]
        exact if_pos hg
      rw [hr, zi_eq, nI_toInt (by omega), Int32.toInt_sub, nI_toInt (by omega), gI_toInt hl9 hok.2.2.2.2.1 hok.2.2.2.2.2.1, Int.bmod_eq_of_le (by omega) (by omega)]
      omega
    refine go_aload_n (i := 0) (pc := 22) dX11_rewardOf_22 rfl rfl ?_
    refine go_getr2 fl_X11_42 (pc := 23) dX11_rewardOf_23 (by first | rfl | (apply zL_ci <;> assumption) | (apply zR_ci <;> assumption)) (by first | rfl | (apply zL_in <;> first | assumption | decide) | (apply zR_in <;> first | assumption | decide)) (by first | rfl | (apply zL_fr0 <;> assumption) | (apply zL_fr1 <;> assumption) | (apply zR_fr0 <;> assumption) | (apply zR_fr1 <;> assumption) | (apply zR_fr2 <;> assumption) | (apply zR_fr3 <;> assumption)) ?_
    refine go_aload_n (i := 0) (pc := 26) dX11_rewardOf_26 rfl rfl ?_
    refine go_getr2 fl_X11_49 (pc := 27) dX11_rewardOf_27 (by first | rfl | (apply zL_ci <;> assumption) | (apply zR_ci <;> assumption)) (by first | rfl | (apply zL_in <;> first | assumption | decide) | (apply zR_in <;> first | assumption | decide)) (by first | rfl | (apply zL_fr0 <;> assumption) | (apply zL_fr1 <;> assumption) | (apply zR_fr0 <;> assumption) | (apply zR_fr1 <;> assumption) | (apply zR_fr2 <;> assumption) | (apply zR_fr3 <;> assumption)) ?_
    refine go_iload_n (i := 1) (pc := 30) dX11_rewardOf_30 rfl rfl ?_
    refine go_callV ml_X11_340 mt_X1_gain (pc := 31) dX11_rewardOf_31 (c_X1_gain hW2 hc) (by first | rfl | (apply zL_cq <;> assumption) | (apply zR_cq <;> assumption)) rfl (by first | rfl | (apply zL_in <;> first | assumption | decide) | (apply zR_in <;> first | assumption | decide)) (by decide) (by decide) rfl rfl (Nat.le_of_ble_eq_true rfl) (fun r σ' hp => ?_)
    obtain ⟨rfl, hσ⟩ := hp
    rw [hσ]
    clear hσ σ'
    dsimp only [zRet]
    refine go_aload_n (i := 0) (pc := 34) dX11_rewardOf_34 rfl rfl ?_
    refine go_getr2 fl_X11_42 (pc := 35) dX11_rewardOf_35 (by first | rfl | (apply zL_ci <;> assumption) | (apply zR_ci <;> assumption)) (by first | rfl | (apply zL_in <;> first | assumption | decide) | (apply zR_in <;> first | assumption | decide)) (by first | rfl | (apply zL_fr0 <;> assumption) | (apply zL_fr1 <;> assumption) | (apply zR_fr0 <;> assumption) | (apply zR_fr1 <;> assumption) | (apply zR_fr2 <;> assumption) | (apply zR_fr3 <;> assumption)) ?_
    refine go_callV ml_X11_173 mt_X1_least (pc := 38) dX11_rewardOf_38 (c_X1_least) (by first | rfl | (apply zL_cq <;> assumption) | (apply zR_cq <;> assumption)) rfl (by first | rfl | (apply zL_in <;> first | assumption | decide) | (apply zR_in <;> first | assumption | decide)) (by decide) (by decide) rfl rfl (Nat.le_of_ble_eq_true rfl) (fun r σ' hp => ?_)
    obtain ⟨rfl, hσ⟩ := hp
    rw [hσ]
    clear hσ σ'
    dsimp only [zRet]
    rw [hD]
    rw [he]
    dsimp only [eD]
    refine go_isub (pc := 41) dX11_rewardOf_41 ?_
    rw [er]
    refine go_ireturn (pc := 42) dX11_rewardOf_42 rfl ?_
    exact ⟨rfl, hC2, kr, hz, hf⟩
  · rw [gM_n (fun q hq => by have h9 : q < ld.1 := gos_lt hV hok hq; omega)] at h17
    have er : rew (vOf bd sk xs ld.1) ld.2 c = 0 := by
      unfold rew
      cases he : easy (vOf bd sk xs ld.1) ld.2 c with
      | none => rfl
      | some q =>
        obtain ⟨b, x⟩ := q
        rw [gos_some he] at h17
        by_cases hg : (x : Int) < gain (vOf bd sk xs ld.1) ld.2 c
        · rw [if_pos hg] at h17; cases h17
        · exact if_neg hg
    refine go_iconst (nI 0) (pc := 20) dX11_rewardOf_20 (by decide) ?_
    refine go_ireturn (pc := 21) dX11_rewardOf_21 rfl ?_
    exact ⟨by rw [er], hC2, kr, hz, hf⟩

theorem c_X11_reward {E : zE} {σ : zT} {tx : Nat × (Nat → Nat)} {bd : Nat × (Nat → Nat) × (Nat → Nat)} {sk : Nat × (Nat → Nat)} {tw : Nat × (Nat → Nat) × (Nat → Nat)} {xs : List Nat} {ld : Nat × (Nat → Nat)} {pa sh : Nat × (Nat → Nat → Nat)} {ru : Nat × (Nat → Nat) × (Nat → Nat)} {to : Nat × (Nat → Int64)} {c : Int32} (hC : ClsIs σ tx bd sk tw xs ld pa sh ru to) : CalM E 6 yX11_reward cX11_reward 2 (some .int) [.ref (zA E 0 0), .int c] σ (fun r σ' => r = some (.int (if inB c bd.1 then nI (rew (vOf bd sk xs ld.1) ld.2 c.toInt.toNat) else -1)) ∧ ClsIs σ' tx bd sk tw xs ld pa sh ru to ∧ Fr33 σ σ') := by
  refine cal_of_go (own := RX11) rfl (by decide +kernel) (Nat.le_of_ble_eq_true rfl) ?_
  have hL := hC.2.2.2.2.2.1
  have hn := hL.b
  have hok := hL.1
  have hB0 := hC.2.2.1
  have hnc := hB0.1
  refine go_aload_n (i := 0) (pc := 0) dX11_reward_0 rfl rfl ?_
  refine go_getr2 fl_X11_19 (pc := 1) dX11_reward_1 (by first | rfl | (apply zL_ci <;> assumption) | (apply zR_ci <;> assumption)) (by first | rfl | (apply zL_in <;> first | assumption | decide) | (apply zR_in <;> first | assumption | decide)) (by first | rfl | (apply zL_fr0 <;> assumption) | (apply zL_fr1 <;> assumption) | (apply zR_fr0 <;> assumption) | (apply zR_fr1 <;> assumption) | (apply zR_fr2 <;> assumption) | (apply zR_fr3 <;> assumption)) ?_
  refine go_iload_n (i := 1) (pc := 4) dX11_reward_4 rfl rfl ?_
  refine go_callV ml_X11_159 mt_X0_has (pc := 5) dX11_reward_5 (c_X0_has hB0) (by first | rfl | (apply zL_cq <;> assumption) | (apply zR_cq <;> assumption)) rfl (by first | rfl | (apply zL_in <;> first | assumption | decide) | (apply zR_in <;> first | assumption | decide)) (by decide) (by decide) rfl rfl (Nat.le_of_ble_eq_true rfl) (fun r σ' hp => ?_)
  obtain ⟨rfl, hσ⟩ := hp
  rw [hσ]
  clear hσ σ'
  dsimp only [zRet]
  refine go_if_eq 19 (pc := 8) dX11_reward_8 (by decide) (fun h8 => ?_) (fun h8 => ?_)
  · first | rw [zb_0d] at h8 | rw [zn_eq0 (by omega)] at h8 | rw [zi_eq0] at h8
    refine go_iconst (-1) (pc := 19) dX11_reward_19 (by decide) ?_
    refine go_ireturn (pc := 20) dX11_reward_20 rfl ?_
    rw [if_neg h8]
    exact ⟨rfl, hC, Fr33.rf⟩
  · first | rw [zb_0d] at h8 | rw [zn_eq0 (by omega)] at h8 | rw [zi_eq0] at h8
    have h8 : inB c bd.1 := Decidable.not_not.mp h8
    rw [if_pos h8]
    have ec1 := nI_of' (x := c) (by omega)
    generalize hqc1 : c.toInt.toNat = c1 at ec1 ⊢
    have hc1 : c1 < bd.1 := by omega
    subst ec1
    refine go_aload_n (i := 0) (pc := 11) dX11_reward_11 rfl rfl ?_
    refine go_iload_n (i := 1) (pc := 12) dX11_reward_12 rfl rfl ?_
    refine go_callV ml_X11_351 mt_X11_rewardOf (pc := 13) dX11_reward_13 (c_X11_rewardOf hC hc1) (by first | rfl | (apply zL_cq <;> assumption) | (apply zR_cq <;> assumption)) rfl (by first | rfl | (apply zL_in <;> first | assumption | decide) | (apply zR_in <;> first | assumption | decide)) (by decide) (by decide) rfl rfl (Nat.le_of_ble_eq_true rfl) (fun r σ' hp => ?_)
    obtain ⟨rfl, hC2, kr, hz, hf⟩ := hp
    dsimp only [zRet]
    have hkr := zR_or hz
    refine go_goto 20 (pc := 16) dX11_reward_16 (by decide) ?_
    refine go_ireturn (pc := 20) dX11_reward_20 rfl ?_
    exact ⟨rfl, hC2, Fr33.of hf (by simp; omega)⟩

theorem c_X11_keeps {E : zE} {σ : zT} {tx : Nat × (Nat → Nat)} {bd : Nat × (Nat → Nat) × (Nat → Nat)} {sk : Nat × (Nat → Nat)} {tw : Nat × (Nat → Nat) × (Nat → Nat)} {xs : List Nat} {ld : Nat × (Nat → Nat)} {pa sh : Nat × (Nat → Nat → Nat)} {ru : Nat × (Nat → Nat) × (Nat → Nat)} {to : Nat × (Nat → Int64)} (hC : ClsIs σ tx bd sk tw xs ld pa sh ru to) : CalM E 5 yX11_keeps cX11_keeps 4 (some .int) [.ref (zA E 0 0)] σ (fun r σ' => r = some (.int (nI (kpsC (vOf bd sk xs ld.1) ld.2 bd.1))) ∧ ClsIs σ' tx bd sk tw xs ld pa sh ru to ∧ Fr33 σ σ') := by
  refine cal_of_go (own := RX11) rfl (by decide +kernel) (Nat.le_of_ble_eq_true rfl) ?_
  have hL := hC.2.2.2.2.2.1
  have hn := hL.b
  have hok := hL.1
  have hB0 := hC.2.2.1
  have hnc := hB0.1
  have loop : ∀ (i : Nat) (τ : zT), i ≤ bd.1 → (ClsIs τ tx bd sk tw xs ld pa sh ru to) → (Fr33 σ τ) → GoM E 5 RX11 cX11_keeps 4 (some .int) (fun r σ' => r = some (.int (nI (kpsC (vOf bd sk xs ld.1) ld.2 bd.1))) ∧ ClsIs σ' tx bd sk tw xs ld pa sh ru to ∧ Fr33 σ σ') τ 5 [(0, .ref (zA E 0 0)), (1, .int (nI (kpsC (vOf bd sk xs ld.1) ld.2 i))), (2, .int (nI i))] [] := by
    intro i
    induction hj : bd.1 - i using Nat.strongRecOn generalizing i with
    | ind z ih =>
      intro τ hi hCt hF
      obtain ⟨kr, hkr, hz, hR14, hW⟩ := hCt.w (kl := 6) rfl hCt.2.2.2.2.2.1
      have hB := hCt.2.2.1
      refine go_iload_n (i := 2) (pc := 5) dX11_keeps_5 rfl rfl ?_
      refine go_aload_n (i := 0) (pc := 6) dX11_keeps_6 rfl rfl ?_
      refine go_getr2 fl_X11_19 (pc := 7) dX11_keeps_7 (by first | rfl | (apply zL_ci <;> assumption) | (apply zR_ci <;> assumption)) (by first | rfl | (apply zL_in <;> first | assumption | decide) | (apply zR_in <;> first | assumption | decide)) (by first | rfl | (apply zL_fr0 <;> assumption) | (apply zL_fr1 <;> assumption) | (apply zR_fr0 <;> assumption) | (apply zR_fr1 <;> assumption) | (apply zR_fr2 <;> assumption) | (apply zR_fr3 <;> assumption)) ?_
      refine go_callV ml_X11_304 mt_X0_size (pc := 10) dX11_keeps_10 (c_X0_size hB) (by first | rfl | (apply zL_cq <;> assumption) | (apply zR_cq <;> assumption)) rfl (by first | rfl | (apply zL_in <;> first | assumption | decide) | (apply zR_in <;> first | assumption | decide)) (by decide) (by decide) rfl rfl (Nat.le_of_ble_eq_true rfl) (fun r σ' hp => ?_)
      obtain ⟨rfl, hσ⟩ := hp
      rw [hσ]
      clear hσ σ'
      dsimp only [zRet]
      refine go_icmp_ge 77 (pc := 13) dX11_keeps_13 (by decide) (fun h13 => ?_) (fun h13 => ?_)
      · first | rw [nI_leI (by omega) (by omega)] at h13 | rw [zi_leN (by omega)] at h13 | rw [zi_Nle (by omega)] at h13 | rw [zi_le] at h13
        have ei : i = bd.1 := by omega
        subst ei
        refine go_iload_n (i := 1) (pc := 77) dX11_keeps_77 rfl rfl ?_
        refine go_ireturn (pc := 78) dX11_keeps_78 rfl ?_
        exact ⟨rfl, hCt, hF⟩
      · first | rw [nI_leI (by omega) (by omega)] at h13 | rw [zi_leN (by omega)] at h13 | rw [zi_Nle (by omega)] at h13 | rw [zi_le] at h13
        refine go_aload_n (i := 0) (pc := 16) dX11_keeps_16 rfl rfl ?_
        refine go_getr2 fl_X11_19 (pc := 17) dX11_keeps_17 (by first | rfl | (apply zL_ci <;> assumption) | (apply zR_ci <;> assumption)) (by first | rfl | (apply zL_in <;> first | assumption | decide) | (apply zR_in <;> first | assumption | decide)) (by first | rfl | (apply zL_fr0 <;> assumption) | (apply zL_fr1 <;> assumption) | (apply zR_fr0 <;> assumption) | (apply zR_fr1 <;> assumption) | (apply zR_fr2 <;> assumption) | (apply zR_fr3 <;> assumption)) ?_
        refine go_iload_n (i := 2) (pc := 20) dX11_keeps_20 rfl rfl ?_
        refine go_callV ml_X11_163 mt_X0_loadOf (pc := 21) dX11_keeps_21 (c_X0_loadOf hB (by omega)) (by first | rfl | (apply zL_cq <;> assumption) | (apply zR_cq <;> assumption)) rfl (by first | rfl | (apply zL_in <;> first | assumption | decide) | (apply zR_in <;> first | assumption | decide)) (by decide) (by decide) rfl rfl (Nat.le_of_ble_eq_true rfl) (fun r σ' hp => ?_)
        obtain ⟨rfl, hσ⟩ := hp
        rw [hσ]
        clear hσ σ'
        dsimp only [zRet]
        refine go_istore_n (i := 3) (pc := 24) dX11_keeps_24 rfl (by decide) ?_
        refine go_iload_n (i := 3) (pc := 25) dX11_keeps_25 rfl rfl ?_
        refine go_if_le 71 (pc := 26) dX11_keeps_26 (by decide) (fun h26 => ?_) (fun h26 => ?_)
        · have hl := (hB.2.2 i (by omega)).2.2.2
          rw [zn_le0 (by omega)] at h26
          exfalso
          omega
        · refine go_aload_n (i := 0) (pc := 29) dX11_keeps_29 rfl rfl ?_
          refine go_getr2 fl_X11_42 (pc := 30) dX11_keeps_30 (by first | rfl | (apply zL_ci <;> assumption) | (apply zR_ci <;> assumption)) (by first | rfl | (apply zL_in <;> first | assumption | decide) | (apply zR_in <;> first | assumption | decide)) (by first | rfl | (apply zL_fr0 <;> assumption) | (apply zL_fr1 <;> assumption) | (apply zR_fr0 <;> assumption) | (apply zR_fr1 <;> assumption) | (apply zR_fr2 <;> assumption) | (apply zR_fr3 <;> assumption)) ?_
          refine go_aload_n (i := 0) (pc := 33) dX11_keeps_33 rfl rfl ?_
          refine go_getR fl_X11_97 (pc := 34) dX11_keeps_34 rfl ?_
          rw [hR14]
          refine go_aload_n (i := 0) (pc := 37) dX11_keeps_37 rfl rfl ?_
          refine go_getr2 fl_X11_49 (pc := 38) dX11_keeps_38 (by first | rfl | (apply zL_ci <;> assumption) | (apply zR_ci <;> assumption)) (by first | rfl | (apply zL_in <;> first | assumption | decide) | (apply zR_in <;> first | assumption | decide)) (by first | rfl | (apply zL_fr0 <;> assumption) | (apply zL_fr1 <;> assumption) | (apply zR_fr0 <;> assumption) | (apply zR_fr1 <;> assumption) | (apply zR_fr2 <;> assumption) | (apply zR_fr3 <;> assumption)) ?_
          refine go_iload_n (i := 2) (pc := 41) dX11_keeps_41 rfl rfl ?_
          refine go_callV ml_X11_170 mt_X1_safest (pc := 42) dX11_keeps_42 (c_X1_safest hW (by omega : i < bd.1)) (by first | rfl | (apply zL_cq <;> assumption) | (apply zR_cq <;> assumption)) rfl (by first | rfl | (apply zL_in <;> first | assumption | decide) | (apply zR_in <;> first | assumption | decide)) (by decide) (by decide) rfl rfl (Nat.le_of_ble_eq_true rfl) (fun r σ' hp => ?_)
          obtain ⟨rfl, hD, hW2, hf, hf5⟩ := hp
          dsimp only [zRet]
          have hC2 := hCt.look hz hR14 hf (by simp) rfl hW2
          have hF2 := hF.tr (Fr33.of hf (by simp; omega))
          have hV := hW.vok
          have hl9 : 1 ≤ bd.2.2 i ∧ bd.2.2 i ≤ 9 := (hV.2.2.2.1 i (by omega : i < bd.1)).2
          have h25 := hok.2.2.2.2.1
          have hk9 := kpsC_le (vOf bd sk xs ld.1) ld.2 i
          have hsl : ∀ b, easy (vOf bd sk xs ld.1) ld.2 i = some b → b.1 < ld.1 ∧ b.2 ≤ 999 := fun b hb => saf_lt (b := b.1) (x := b.2) hV hok hb
          refine go_iconst (-1) (pc := 45) dX11_keeps_45 (by decide) ?_
          refine go_icmp_eq 71 (pc := 46) dX11_keeps_46 (by decide) (fun h46 => ?_) (fun h46 => ?_)
          · rw [eM_n (fun b hb => by have := (hsl b hb).1; omega)] at h46
            have es : kpsC (vOf bd sk xs ld.1) ld.2 (i + 1) = kpsC (vOf bd sk xs ld.1) ld.2 i := kpsC_n h46
            refine go_iincN (pc := 71) dX11_keeps_71 rfl (by decide) ?_
            refine go_goto 5 (pc := 74) dX11_keeps_74 (by decide) ?_
            refine go_drop [0, 1, 2] rfl ?_
            rw [← es]
            exact ih (bd.1 - (i + 1)) (by omega) (i + 1) rfl _ (by omega) hC2 hF2
          · rw [eM_n (fun b hb => by have := (hsl b hb).1; omega)] at h46
            obtain ⟨⟨b, x⟩, he⟩ : ∃ b, easy (vOf bd sk xs ld.1) ld.2 i = some b := by { cases hd : easy (vOf bd sk xs ld.1) ld.2 i with | none => exact absurd hd h46 | some x => exact ⟨x, rfl⟩ }
            have hx9 := (hsl _ he).2
            dsimp only at hx9
            have es : kpsC (vOf bd sk xs ld.1) ld.2 (i + 1) = min (kpsC (vOf bd sk xs ld.1) ld.2 i) (ld.2 25 + x / bd.2.2 i) := kpsC_s he
            refine go_iload_n (i := 1) (pc := 49) dX11_keeps_49 rfl rfl ?_
            refine go_aload_n (i := 0) (pc := 50) dX11_keeps_50 rfl rfl ?_
            refine go_getr2 fl_X11_49 (pc := 51) dX11_keeps_51 (by first | rfl | (apply zL_ci <;> assumption) | (apply zR_ci <;> assumption)) (by first | rfl | (apply zL_in <;> first | assumption | decide) | (apply zR_in <;> first | assumption | decide)) (by first | rfl | (apply zL_fr0 <;> assumption) | (apply zL_fr1 <;> assumption) | (apply zR_fr0 <;> assumption) | (apply zR_fr1 <;> assumption) | (apply zR_fr2 <;> assumption) | (apply zR_fr3 <;> assumption)) ?_
            refine go_callV ml_X11_247 mt_X2_cheap (pc := 54) dX11_keeps_54 (c_X2_cheap rfl hC2.2.2.2.2.2.1) (by first | rfl | (apply zL_cq <;> assumption) | (apply zR_cq <;> assumption)) rfl (by first | rfl | (apply zL_in <;> first | assumption | decide) | (apply zR_in <;> first | assumption | decide)) (by decide) (by decide) rfl rfl (Nat.le_of_ble_eq_true rfl) (fun r σ' hp => ?_)
            obtain ⟨rfl, hσ⟩ := hp
            rw [hσ]
            clear hσ σ'
            dsimp only [zRet]
            refine go_aload_n (i := 0) (pc := 57) dX11_keeps_57 rfl rfl ?_
            refine go_getr2 fl_X11_42 (pc := 58) dX11_keeps_58 (by first | rfl | (apply zL_ci <;> assumption) | (apply zR_ci <;> assumption)) (by first | rfl | (apply zL_in <;> first | assumption | decide) | (apply zR_in <;> first | assumption | decide)) (by first | rfl | (apply zL_fr0 <;> assumption) | (apply zL_fr1 <;> assumption) | (apply zR_fr0 <;> assumption) | (apply zR_fr1 <;> assumption) | (apply zR_fr2 <;> assumption) | (apply zR_fr3 <;> assumption)) ?_
            refine go_callV ml_X11_173 mt_X1_least (pc := 61) dX11_keeps_61 (c_X1_least) (by first | rfl | (apply zL_cq <;> assumption) | (apply zR_cq <;> assumption)) rfl (by first | rfl | (apply zL_in <;> first | assumption | decide) | (apply zR_in <;> first | assumption | decide)) (by decide) (by decide) rfl rfl (Nat.le_of_ble_eq_true rfl) (fun r σ' hp => ?_)
            obtain ⟨rfl, hσ⟩ := hp
            rw [hσ]
            clear hσ σ'
            dsimp only [zRet]
            rw [hD, he]
            dsimp only [eD]
            refine go_iload_n (i := 3) (pc := 64) dX11_keeps_64 rfl rfl ?_
            refine go_idiv (pc := 65) dX11_keeps_65 (by rw [zn_eq0 (by omega)]; omega) ?_
            rw [pk_div (by omega) hl9.1 (Nat.lt_of_le_of_lt hl9.2 (by decide))]
            first | with_reducible refine go_iaddN (pc := 66) dX11_keeps_66 ?_ | refine go_iadd (pc := 66) dX11_keeps_66 ?_
            refine go_callS ml_X11_276 mt_J9_min_7cf53 (pc := 67) dX11_keeps_67 (c_J9_minN (by omega) (by have : x / bd.2.2 i ≤ x := Nat.div_le_self _ _; omega)) (by decide) (by decide) rfl rfl (Nat.le_of_ble_eq_true rfl) (fun r σ' hp => ?_)
            obtain ⟨rfl, hσ⟩ := hp
            rw [hσ]
            clear hσ σ'
            dsimp only [zRet]
            refine go_istore_n (i := 1) (pc := 70) dX11_keeps_70 rfl (by decide) ?_
            refine go_iincN (pc := 71) dX11_keeps_71 rfl (by decide) ?_
            refine go_goto 5 (pc := 74) dX11_keeps_74 (by decide) ?_
            refine go_drop [0, 1, 2] rfl ?_
            rw [← es]
            exact ih (bd.1 - (i + 1)) (by omega) (i + 1) rfl _ (by omega) hC2 hF2
  refine go_bipush (nI 99) (pc := 0) dX11_keeps_0 (by decide) ?_
  refine go_istore_n (i := 1) (pc := 2) dX11_keeps_2 rfl (by decide) ?_
  refine go_iconst (nI 0) (pc := 3) dX11_keeps_3 (by decide) ?_
  refine go_istore_n (i := 2) (pc := 4) dX11_keeps_4 rfl (by decide) ?_
  exact loop 0 _ (by omega) hC Fr33.rf

