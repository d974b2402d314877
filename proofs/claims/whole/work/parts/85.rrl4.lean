theorem rl_alt (L : Nat) (f : Nat → Nat) : rlY L f = rdX L (mq0 L f) ∨ (rlY L f = [] ∧ rdX L (mq0 L f) = usual) := by
  unfold rlY rdX
  by_cases h : L = 0
  · rw [if_pos h, if_pos h]; exact Or.inr ⟨rfl, rfl⟩
  · rw [if_neg h, if_neg h]; exact Or.inl rfl
theorem rl_len {L : Nat} {f : Nat → Nat} (h : rdF L (mq0 L f) = none) : (rlY L f).length ≤ 40 := by
  rcases rl_alt L f with e | e
  · rw [e]; exact (rd_ok h).2.1
  · rw [e.1]; exact Nat.zero_le _

theorem mF_n0 {q : Nat} (h : q ≤ 40) : mF q ≠ 0 := (by decide : ∀ q : Nat, q ≤ 40 → mF q ≠ 0) q h

theorem c_X12_rule {E : zE} {σ : zT} {tx : Nat × (Nat → Nat)} {bd : Nat × (Nat → Nat) × (Nat → Nat)} {sk : Nat × (Nat → Nat)} {tw : Nat × (Nat → Nat) × (Nat → Nat)} {xs : List Nat} {ld : Nat × (Nat → Nat)} {pa sh : Nat × (Nat → Nat → Nat)} {ru : Nat × (Nat → Nat) × (Nat → Nat)} {to : Nat × (Nat → Int64)} (hC : RefIs σ tx bd sk tw xs ld pa sh ru to) : CalM E 337 yX12_rule cX12_rule 2 (some .int) [.ref (zA E 33 0)] σ (fun r σ' => r = some (.int (match (rdF tx.1 (mq0 tx.1 tx.2)) with | none => nI 0 | some q => mF q)) ∧ RefIs σ' (0, tx.2) bd sk tw (match (rdF tx.1 (mq0 tx.1 tx.2)) with | none => (rdX tx.1 (mq0 tx.1 tx.2)) | some _ => xs) ld pa sh ru to ∧ FrG [33] σ σ') := by
  refine cal_of_go (own := RX12) rfl (by decide +kernel) (Nat.le_of_ble_eq_true rfl) ?_
  cases hE : (rdF tx.1 (mq0 tx.1 tx.2)) with
  | none =>
    dsimp only
    have hlen := rl_len hE
    refine go_aload_n (i := 0) (pc := 0) dX12_rule_0 rfl rfl ?_
    refine go_iconst (nI 0) (pc := 1) dX12_rule_1 (by decide) ?_
    refine go_puti fp_X12_97 (pc := 2) dX12_rule_2 (by rfl) rfl rfl ?_
    have hF0 : Fr9 [0] [] σ (uS σ 33 0 (nI 0)) := Fr9.rf.uS (by simp)
    refine go_aload_n (i := 0) (pc := 5) dX12_rule_5 rfl rfl ?_
    refine go_callV ml_X12_230 mt_X12_readsRule (pc := 6) dX12_rule_6 (c_X12_readsRule (L := tx.1) (f := tx.2) (hC.2.1.fr hF0 (by decide) (by decide))) (by rfl) rfl (by rfl) (by decide) (by decide) rfl rfl (Nat.le_of_ble_eq_true rfl) (fun r σ' hp => ?_)
    obtain ⟨rfl, hRc, hTt, hF1⟩ := hp
    dsimp only [zRet]
    rw [hE]
    dsimp only
    have hF2 : Fr9 [0, 15, 16, 17, 18, 23, 24] [11, 12] σ σ' := (hF0.mono (by simp) (by simp)).tr (hF1.mono (by simp) (by simp))
    refine go_istore_n (i := 1) (pc := 9) dX12_rule_9 rfl (by decide) ?_
    refine go_iload_n (i := 1) (pc := 10) dX12_rule_10 rfl rfl ?_
    refine go_if_ne 26 (pc := 11) dX12_rule_11 (by decide) (fun h11 => ?_) (fun h11 => ?_)
    · exact absurd rfl h11
    · refine go_aload_n (i := 0) (pc := 14) dX12_rule_14 rfl rfl ?_
      refine go_aload_n (i := 0) (pc := 15) dX12_rule_15 rfl rfl ?_
      refine go_getr2 fl_X12_51 (pc := 16) dX12_rule_16 (by rfl) (by rfl) (by rfl) ?_
      refine go_aload_n (i := 0) (pc := 19) dX12_rule_19 rfl rfl ?_
      refine go_geti fl_X12_206 (pc := 20) dX12_rule_20 (by rfl) ?_
      rw [(hRc hE).1]
      refine go_callV ml_X12_233 mt_X12_laysCode (pc := 23) dX12_rule_23 (c_X12_laysCode (w := 12) (ys := rlY tx.1 tx.2) (Or.inl rfl) (by omega) (hRc hE).2) (by rfl) rfl (by rfl) (by decide) (by decide) rfl rfl (Nat.le_of_ble_eq_true rfl) (fun r σ' hp => ?_)
      obtain ⟨rfl, h23, h11, hF3⟩ := hp
      dsimp only [zRet]
      have hF := hF2.tr (hF3.mono (by simp) (by simp))
      refine go_iload_n (i := 1) (pc := 26) dX12_rule_26 rfl rfl ?_
      refine go_ireturn (pc := 27) dX12_rule_27 rfl ?_
      exact ⟨rfl, ⟨⟨rd_ok hE, rlY tx.1 tx.2, rl_alt _ _, h23, h11⟩, (hTt.fr hF3 (by decide) (by decide)), (hC.2.2.1).fr hF (by decide) (by decide) (by decide), (hC.2.2.2.1).fr hF (by decide) (by decide), (hC.2.2.2.2.1).fr hF (by decide) (by decide) (by decide), (hC.2.2.2.2.2.1).fr hF (by decide) (by decide), (hC.2.2.2.2.2.2.1).fr hF (by decide) (by decide), (hC.2.2.2.2.2.2.2.1).fr hF (by decide) (by decide), (hC.2.2.2.2.2.2.2.2.1).fr hF (by decide) (by decide) (by decide), (hC.2.2.2.2.2.2.2.2.2).fr hF (by decide) (by decide)⟩, hF.1⟩
  | some q =>
    dsimp only
    have hq := rdF_le hE
    refine go_aload_n (i := 0) (pc := 0) dX12_rule_0 rfl rfl ?_
    refine go_iconst (nI 0) (pc := 1) dX12_rule_1 (by decide) ?_
    refine go_puti fp_X12_97 (pc := 2) dX12_rule_2 (by rfl) rfl rfl ?_
    have hF0 : Fr9 [0] [] σ (uS σ 33 0 (nI 0)) := Fr9.rf.uS (by simp)
    refine go_aload_n (i := 0) (pc := 5) dX12_rule_5 rfl rfl ?_
    refine go_callV ml_X12_230 mt_X12_readsRule (pc := 6) dX12_rule_6 (c_X12_readsRule (L := tx.1) (f := tx.2) (hC.2.1.fr hF0 (by decide) (by decide))) (by rfl) rfl (by rfl) (by decide) (by decide) rfl rfl (Nat.le_of_ble_eq_true rfl) (fun r σ' hp => ?_)
    obtain ⟨rfl, hRc, hTt, hF1⟩ := hp
    dsimp only [zRet]
    rw [hE]
    dsimp only
    have hF2 : Fr9 [0, 15, 16, 17, 18, 23, 24] [11, 12] σ σ' := (hF0.mono (by simp) (by simp)).tr (hF1.mono (by simp) (by simp))
    refine go_istore_n (i := 1) (pc := 9) dX12_rule_9 rfl (by decide) ?_
    refine go_iload_n (i := 1) (pc := 10) dX12_rule_10 rfl rfl ?_
    refine go_if_ne 26 (pc := 11) dX12_rule_11 (by decide) (fun h11 => ?_) (fun h11 => ?_)
    · have hF : Fr9 [0, 15, 16, 17, 18, 24] [12] σ σ' := (hF0.mono (by simp) (by simp)).tr (hF1.mono (by simp) (by simp))
      refine go_iload_n (i := 1) (pc := 26) dX12_rule_26 rfl rfl ?_
      refine go_ireturn (pc := 27) dX12_rule_27 rfl ?_
      exact ⟨rfl, ⟨(hC.1).fr hF (by decide) (by decide), hTt, (hC.2.2.1).fr hF (by decide) (by decide) (by decide), (hC.2.2.2.1).fr hF (by decide) (by decide), (hC.2.2.2.2.1).fr hF (by decide) (by decide) (by decide), (hC.2.2.2.2.2.1).fr hF (by decide) (by decide), (hC.2.2.2.2.2.2.1).fr hF (by decide) (by decide), (hC.2.2.2.2.2.2.2.1).fr hF (by decide) (by decide), (hC.2.2.2.2.2.2.2.2.1).fr hF (by decide) (by decide) (by decide), (hC.2.2.2.2.2.2.2.2.2).fr hF (by decide) (by decide)⟩, hF.1⟩
    · exact absurd h11 (mF_n0 hq)

