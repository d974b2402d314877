/-! a week's end, a line anew -/
def skC (n : Nat) (ρ : Nat → Nat) (c m : Nat) : Nat → Nat := fun i => if i < m then (if c = 2 then min 9 (ρ i + 1) else ρ i - 1) else ρ i
theorem clp_up {a : Nat} (h : a ≤ 9) : clp (nI a + nI 1) 9 = min 9 (a + 1) := by
  rw [nI_add, clp_N (by omega)]
  split <;> omega
theorem clp_dn {a : Nat} (h : a ≤ 9) : clp (nI a + (-1)) 9 = a - 1 := by
  cases a with
  | zero => decide
  | succ a =>
    rw [pk_m1, clp_N (by omega), if_neg (by omega)]
    omega
theorem clp_dn2 {a : Nat} (h : a ≤ 9) : clp (nI a - nI 2) 9 = a - 2 := by
  by_cases h2 : 2 ≤ a
  · rw [pk_sub h2, clp_N (by omega), if_neg (by omega)]
  · have : a = 0 ∨ a = 1 := by omega
    rcases this with rfl | rfl <;> decide
theorem skS_ne {c : Nat} : (skS c = 100 ↔ c = 1) ∧ (skS c = 114 ↔ c = 2) ∧ (skS c = 97 ↔ c = 3) ∧ skS c < 256 := by
  unfold skS
  split
  · omega
  · split
    · omega
    · split <;> omega

theorem c_X2_endWeek {E : zE} {σ : zT} {k n c : Nat} {ρ : Nat → Nat} (hk : zL k = true) (hL : LandIs σ k n ρ) (hw : ρ 27 + 1 < 2 ^ 28) : CalM E 2 yX2_endWeek cX2_endWeek 3 none [.ref (zA E k 0), .int (nI (skS c))] σ (fun r σ' => r = none ∧ LandIs σ' k n (endW n ρ c) ∧ FrG [k] σ σ') := by
  refine cal_of_go (own := RX2) rfl (by decide +kernel) (Nat.le_of_ble_eq_true rfl) ?_
  have hn := hL.b
  have hs := skS_ne (c := c)
  have loop : ∀ (m : Nat) (τ : zT), m ≤ n → (c = 1 ∨ c = 2) → LandIs τ k n (skC n ρ c m) → FrG [k] σ τ → GoM E 2 RX2 cX2_endWeek 3 none (fun r σ' => r = none ∧ LandIs σ' k n (endW n ρ c) ∧ FrG [k] σ σ') τ 14 [(0, .ref (zA E k 0)), (1, .int (nI (skS c))), (2, .int (nI m))] [] := by
    intro m
    induction hj : n - m using Nat.strongRecOn generalizing m with
    | ind j ih =>
      intro τ hm hc hT hF
      refine go_iload_n (i := 2) (pc := 14) dX2_endWeek_14 rfl rfl ?_
      refine go_aload_n (i := 0) (pc := 15) dX2_endWeek_15 rfl rfl ?_
      refine go_geti fl_X2_18 (pc := 16) dX2_endWeek_16 (by first | rfl | (apply zL_fi <;> first | assumption | decide) | (apply zR_fi <;> first | assumption | decide)) ?_
      rw [hT.f2]
      refine go_icmp_ge 50 (pc := 19) dX2_endWeek_19 (by decide) (fun h19 => ?_) (fun h19 => ?_)
      · first | rw [nI_leI (by omega) (by omega)] at h19 | rw [zi_leN (by omega)] at h19 | rw [zi_Nle (by omega)] at h19 | rw [zi_le] at h19
        refine go_goto 82 (pc := 50) dX2_endWeek_50 (by decide) ?_
        refine go_aload_n (i := 0) (pc := 82) dX2_endWeek_82 rfl rfl ?_
        refine go_dup (pc := 83) dX2_endWeek_83 rfl ?_
        refine go_geti fl_X2_43 (pc := 84) dX2_endWeek_84 (by first | rfl | (apply zL_fi <;> first | assumption | decide) | (apply zR_fi <;> first | assumption | decide)) ?_
        rw [hT.f8]
        have e27 : skC n ρ c m 27 = ρ 27 := by simp only [skC]; rw [if_neg (by omega)]
        rw [e27]
        refine go_iconst (nI 1) (pc := 87) dX2_endWeek_87 (by decide) ?_
        first | with_reducible refine go_iaddN (pc := 88) dX2_endWeek_88 ?_ | refine go_iadd (pc := 88) dX2_endWeek_88 ?_
        refine go_puti fp_X2_43 (pc := 89) dX2_endWeek_89 (by first | rfl | (apply zL_fi <;> first | assumption | decide) | (apply zR_fi <;> first | assumption | decide)) rfl rfl ?_
        refine go_return (pc := 92) dX2_endWeek_92 rfl ?_
        have em : m = n := by omega
        subst em
        refine ⟨rfl, ?_, hF.uS (by simp)⟩
        have h7 := hT.sc (f := 8) (i := 27) (v := ρ 27 + 1) (by omega) (hT.1.hi (by omega))
        have e7 : va_up (skC m ρ c m) 27 (ρ 27 + 1) = endW m ρ c := by
          unfold endW skC
          rcases hc with rfl | rfl <;> simp
        rw [← e7]
        exact h7
      · first | rw [nI_leI (by omega) (by omega)] at h19 | rw [zi_leN (by omega)] at h19 | rw [zi_Nle (by omega)] at h19 | rw [zi_le] at h19
        refine go_aload_n (i := 0) (pc := 22) dX2_endWeek_22 rfl rfl ?_
        refine go_iload_n (i := 2) (pc := 23) dX2_endWeek_23 rfl rfl ?_
        refine go_aload_n (i := 0) (pc := 24) dX2_endWeek_24 rfl rfl ?_
        refine go_iload_n (i := 2) (pc := 25) dX2_endWeek_25 rfl rfl ?_
        refine go_callV ml_X2_88 mt_X2_hedgeAt (pc := 26) dX2_endWeek_26 (c_X2_hedgeAt hk hT (by omega)) (by first | rfl | (apply zL_cq <;> assumption) | (apply zR_cq <;> assumption)) rfl (by first | rfl | (apply zL_in <;> first | assumption | decide) | (apply zR_in <;> first | assumption | decide)) (by decide) (by decide) rfl rfl (Nat.le_of_ble_eq_true rfl) (fun r σ' hp => ?_)
        obtain ⟨rfl, hσ⟩ := hp
        rw [hσ]
        clear hσ σ'
        dsimp only [zRet]
        have e1 : skC n ρ c m m = ρ m := by simp [skC]
        have h9 := hL.1.2.2.1 m (by omega)
        rw [e1]
        refine go_iload_n (i := 1) (pc := 29) dX2_endWeek_29 rfl rfl ?_
        refine go_bipush (nI 114) (pc := 30) dX2_endWeek_30 (by decide) ?_
        refine go_icmp_ne 39 (pc := 32) dX2_endWeek_32 (by decide) (fun h32 => ?_) (fun h32 => ?_)
        · first | rw [nI_eq (by omega) (by omega)] at h32 | rw [zi_eqN (by omega)] at h32 | rw [zi_Neq (by omega)] at h32 | rw [zi_eq] at h32
          refine go_iconst (-1) (pc := 39) dX2_endWeek_39 (by decide) ?_
          refine go_iadd (pc := 40) dX2_endWeek_40 ?_
          refine go_callV ml_X2_77 mt_X2_setHedge (pc := 41) dX2_endWeek_41 (c_X2_setHedge hk hT (by omega)) (by first | rfl | (apply zL_cq <;> assumption) | (apply zR_cq <;> assumption)) rfl (by first | rfl | (apply zL_in <;> first | assumption | decide) | (apply zR_in <;> first | assumption | decide)) (by decide) (by decide) rfl rfl (Nat.le_of_ble_eq_true rfl) (fun r σ' hp => ?_)
          obtain ⟨rfl, hT2, hf2⟩ := hp
          dsimp only [zRet]
          refine go_iincN (pc := 44) dX2_endWeek_44 rfl (by decide) ?_
          refine go_goto 14 (pc := 47) dX2_endWeek_47 (by decide) ?_
          refine ih (n - (m + 1)) (by omega) (m + 1) rfl _ (by omega) hc ?_ (hF.tr hf2)
          have e5 : skC n ρ c (m + 1) = va_up (skC n ρ c m) m (if c = 2 then min 9 (ρ m + 1) else ρ m - 1) := by
            funext i
            simp only [skC, va_at']
            by_cases q : i = m
            · subst q; rw [if_pos (by omega), if_pos rfl]
            · rw [if_neg q]
              by_cases q2 : i < m
              · rw [if_pos q2, if_pos (by omega)]
              · rw [if_neg q2, if_neg (by omega)]
          rw [e5]
          first
            | (rw [if_pos (by omega), ← clp_up h9]; exact hT2)
            | (rw [if_neg (by omega), ← clp_dn h9]; exact hT2)
        · first | rw [nI_eq (by omega) (by omega)] at h32 | rw [zi_eqN (by omega)] at h32 | rw [zi_Neq (by omega)] at h32 | rw [zi_eq] at h32
          refine go_iconst (nI 1) (pc := 35) dX2_endWeek_35 (by decide) ?_
          refine go_goto 40 (pc := 36) dX2_endWeek_36 (by decide) ?_
          refine go_iadd (pc := 40) dX2_endWeek_40 ?_
          refine go_callV ml_X2_77 mt_X2_setHedge (pc := 41) dX2_endWeek_41 (c_X2_setHedge hk hT (by omega)) (by first | rfl | (apply zL_cq <;> assumption) | (apply zR_cq <;> assumption)) rfl (by first | rfl | (apply zL_in <;> first | assumption | decide) | (apply zR_in <;> first | assumption | decide)) (by decide) (by decide) rfl rfl (Nat.le_of_ble_eq_true rfl) (fun r σ' hp => ?_)
          obtain ⟨rfl, hT2, hf2⟩ := hp
          dsimp only [zRet]
          refine go_iincN (pc := 44) dX2_endWeek_44 rfl (by decide) ?_
          refine go_goto 14 (pc := 47) dX2_endWeek_47 (by decide) ?_
          refine ih (n - (m + 1)) (by omega) (m + 1) rfl _ (by omega) hc ?_ (hF.tr hf2)
          have e5 : skC n ρ c (m + 1) = va_up (skC n ρ c m) m (if c = 2 then min 9 (ρ m + 1) else ρ m - 1) := by
            funext i
            simp only [skC, va_at']
            by_cases q : i = m
            · subst q; rw [if_pos (by omega), if_pos rfl]
            · rw [if_neg q]
              by_cases q2 : i < m
              · rw [if_pos q2, if_pos (by omega)]
              · rw [if_neg q2, if_neg (by omega)]
          rw [e5]
          first
            | (rw [if_pos (by omega), ← clp_up h9]; exact hT2)
            | (rw [if_neg (by omega), ← clp_dn h9]; exact hT2)
  refine go_iload_n (i := 1) (pc := 0) dX2_endWeek_0 rfl rfl ?_
  refine go_bipush (nI 100) (pc := 1) dX2_endWeek_1 (by decide) ?_
  refine go_icmp_eq 12 (pc := 3) dX2_endWeek_3 (by decide) (fun h3 => ?_) (fun h3 => ?_)
  · first | rw [nI_eq (by omega) (by omega)] at h3 | rw [zi_eqN (by omega)] at h3 | rw [zi_Neq (by omega)] at h3 | rw [zi_eq] at h3
    refine go_iconst (nI 0) (pc := 12) dX2_endWeek_12 (by decide) ?_
    refine go_istore_n (i := 2) (pc := 13) dX2_endWeek_13 rfl (by decide) ?_
    exact loop 0 σ (by omega) (by omega) (by have e : skC n ρ c 0 = ρ := by { funext i; simp [skC] }; rw [e]; exact hL) FrG.rf
  · first | rw [nI_eq (by omega) (by omega)] at h3 | rw [zi_eqN (by omega)] at h3 | rw [zi_Neq (by omega)] at h3 | rw [zi_eq] at h3
    refine go_iload_n (i := 1) (pc := 6) dX2_endWeek_6 rfl rfl ?_
    refine go_bipush (nI 114) (pc := 7) dX2_endWeek_7 (by decide) ?_
    refine go_icmp_ne 53 (pc := 9) dX2_endWeek_9 (by decide) (fun h9 => ?_) (fun h9 => ?_)
    · first | rw [nI_eq (by omega) (by omega)] at h9 | rw [zi_eqN (by omega)] at h9 | rw [zi_Neq (by omega)] at h9 | rw [zi_eq] at h9
      refine go_iload_n (i := 1) (pc := 53) dX2_endWeek_53 rfl rfl ?_
      refine go_bipush (nI 97) (pc := 54) dX2_endWeek_54 (by decide) ?_
      refine go_icmp_ne 82 (pc := 56) dX2_endWeek_56 (by decide) (fun h56 => ?_) (fun h56 => ?_)
      · first | rw [nI_eq (by omega) (by omega)] at h56 | rw [zi_eqN (by omega)] at h56 | rw [zi_Neq (by omega)] at h56 | rw [zi_eq] at h56
        refine go_aload_n (i := 0) (pc := 82) dX2_endWeek_82 rfl rfl ?_
        refine go_dup (pc := 83) dX2_endWeek_83 rfl ?_
        refine go_geti fl_X2_43 (pc := 84) dX2_endWeek_84 (by first | rfl | (apply zL_fi <;> first | assumption | decide) | (apply zR_fi <;> first | assumption | decide)) ?_
        rw [hL.f8]
        refine go_iconst (nI 1) (pc := 87) dX2_endWeek_87 (by decide) ?_
        first | with_reducible refine go_iaddN (pc := 88) dX2_endWeek_88 ?_ | refine go_iadd (pc := 88) dX2_endWeek_88 ?_
        refine go_puti fp_X2_43 (pc := 89) dX2_endWeek_89 (by first | rfl | (apply zL_fi <;> first | assumption | decide) | (apply zR_fi <;> first | assumption | decide)) rfl rfl ?_
        refine go_return (pc := 92) dX2_endWeek_92 rfl ?_
        refine ⟨rfl, ?_, FrG.rf.uS (by simp)⟩
        have h7 := hL.sc (f := 8) (i := 27) (v := ρ 27 + 1) (by omega) (hL.1.hi (by omega))
        unfold endW
        rw [if_neg (by omega), if_neg (by omega), if_neg (by omega)]
        exact h7
      · first | rw [nI_eq (by omega) (by omega)] at h56 | rw [zi_eqN (by omega)] at h56 | rw [zi_Neq (by omega)] at h56 | rw [zi_eq] at h56
        refine go_aload_n (i := 0) (pc := 59) dX2_endWeek_59 rfl rfl ?_
        refine go_geti fl_X2_18 (pc := 60) dX2_endWeek_60 (by first | rfl | (apply zL_fi <;> first | assumption | decide) | (apply zR_fi <;> first | assumption | decide)) ?_
        rw [hL.f2]
        refine go_if_le 82 (pc := 63) dX2_endWeek_63 (by decide) (fun h63 => ?_) (fun h63 => ?_)
        · first | rw [zb_0d] at h63 | rw [zn_le0 (by omega)] at h63 | rw [zi_le0] at h63
          omega
        · first | rw [zb_0d] at h63 | rw [zn_le0 (by omega)] at h63 | rw [zi_le0] at h63
          refine go_aload_n (i := 0) (pc := 66) dX2_endWeek_66 rfl rfl ?_
          refine go_aload_n (i := 0) (pc := 67) dX2_endWeek_67 rfl rfl ?_
          refine go_geti fl_X2_43 (pc := 68) dX2_endWeek_68 (by first | rfl | (apply zL_fi <;> first | assumption | decide) | (apply zR_fi <;> first | assumption | decide)) ?_
          rw [hL.f8]
          refine go_aload_n (i := 0) (pc := 71) dX2_endWeek_71 rfl rfl ?_
          refine go_geti fl_X2_18 (pc := 72) dX2_endWeek_72 (by first | rfl | (apply zL_fi <;> first | assumption | decide) | (apply zR_fi <;> first | assumption | decide)) ?_
          rw [hL.f2]
          refine go_callS ml_X2_94 mt_J9_floorMod_7cf53 (pc := 75) dX2_endWeek_75 (c_J9_floorMod_7cf53 (by have := hL.1.2.2.2.2.2.2.1; omega) (by omega) (by omega)) (by decide) (by decide) rfl rfl (Nat.le_of_ble_eq_true rfl) (fun r σ' hp => ?_)
          obtain ⟨rfl, hσ⟩ := hp
          rw [hσ]
          clear hσ σ'
          dsimp only [zRet]
          refine go_iconst (nI 0) (pc := 78) dX2_endWeek_78 (by decide) ?_
          refine go_callV ml_X2_77 mt_X2_setHedge (pc := 79) dX2_endWeek_79 (c_X2_setHedge hk hL (Nat.mod_lt _ (by omega))) (by first | rfl | (apply zL_cq <;> assumption) | (apply zR_cq <;> assumption)) rfl (by first | rfl | (apply zL_in <;> first | assumption | decide) | (apply zR_in <;> first | assumption | decide)) (by decide) (by decide) rfl rfl (Nat.le_of_ble_eq_true rfl) (fun r σ' hp => ?_)
          obtain ⟨rfl, hT2, hf2⟩ := hp
          dsimp only [zRet]
          refine go_aload_n (i := 0) (pc := 82) dX2_endWeek_82 rfl rfl ?_
          refine go_dup (pc := 83) dX2_endWeek_83 rfl ?_
          refine go_geti fl_X2_43 (pc := 84) dX2_endWeek_84 (by first | rfl | (apply zL_fi <;> first | assumption | decide) | (apply zR_fi <;> first | assumption | decide)) ?_
          rw [hT2.f8]
          have e27 : va_up ρ (ρ 27 % n) (clp (nI 0) 9) 27 = ρ 27 := by rw [va_at', if_neg (by have := Nat.mod_lt (ρ 27) (show 0 < n by omega); omega)]
          rw [e27]
          refine go_iconst (nI 1) (pc := 87) dX2_endWeek_87 (by decide) ?_
          first | with_reducible refine go_iaddN (pc := 88) dX2_endWeek_88 ?_ | refine go_iadd (pc := 88) dX2_endWeek_88 ?_
          refine go_puti fp_X2_43 (pc := 89) dX2_endWeek_89 (by first | rfl | (apply zL_fi <;> first | assumption | decide) | (apply zR_fi <;> first | assumption | decide)) rfl rfl ?_
          refine go_return (pc := 92) dX2_endWeek_92 rfl ?_
          refine ⟨rfl, ?_, hf2.uS (by simp)⟩
          have h7 := hT2.sc (f := 8) (i := 27) (v := ρ 27 + 1) (by omega) (hT2.1.hi (by omega))
          unfold endW
          rw [if_neg (by omega), if_neg (by omega), if_pos (by omega)]
          exact h7
          skip
    · first | rw [nI_eq (by omega) (by omega)] at h9 | rw [zi_eqN (by omega)] at h9 | rw [zi_Neq (by omega)] at h9 | rw [zi_eq] at h9
      refine go_iconst (nI 0) (pc := 12) dX2_endWeek_12 (by decide) ?_
      refine go_istore_n (i := 2) (pc := 13) dX2_endWeek_13 rfl (by decide) ?_
      exact loop 0 σ (by omega) (by omega) (by have e : skC n ρ c 0 = ρ := by { funext i; simp [skC] }; rw [e]; exact hL) FrG.rf

