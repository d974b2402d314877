theorem c_X12_putsBy {E : zE} {σ : zT} {ρ : Nat → Nat} {sz n : Nat} {Hs : Nat → Nat → Nat} (hw : RwIs σ 7 ρ) (hU : UndoIs σ sz n Hs) : CalM E 0 yX12_putsBy cX12_putsBy 2 none [.ref (zA E 33 0)] σ (fun r σ' => r = none ∧ UndoIs σ' sz n Hs ∧ (∀ k, k < 29 → σ'.2.1 33 15 (29 * sz + k) = nI (ρ k)) ∧ Fr9 [] [15] σ σ') := by
  refine cal_of_go (own := RX12) rfl (by decide +kernel) (Nat.le_of_ble_eq_true rfl) ?_
  have h15 := hU.1
  have loop : ∀ (i : Nat) (τ : zT), i ≤ 29 → (∀ q, q < i → τ.2.1 33 15 (29 * sz + q) = nI (ρ q)) → (∀ q, q < 29 * sz → τ.2.1 33 15 q = σ.2.1 33 15 q) → Fr9 [] [15] σ τ → GoM E 0 RX12 cX12_putsBy 2 none (fun r σ' => r = none ∧ UndoIs σ' sz n Hs ∧ (∀ k, k < 29 → σ'.2.1 33 15 (29 * sz + k) = nI (ρ k)) ∧ Fr9 [] [15] σ σ') τ 2 [(0, .ref (zA E 33 0)), (1, .int (nI i))] [] := by
    intro i
    induction hz : 29 - i using Nat.strongRecOn generalizing i with
    | ind z ih =>
      intro τ hi hO hK hF
      refine go_iload_n (i := 1) (pc := 2) dX12_putsBy_2 rfl rfl ?_
      refine go_bipush (nI 29) (pc := 3) dX12_putsBy_3 (by decide) ?_
      refine go_icmp_ge 34 (pc := 5) dX12_putsBy_5 (by decide) (fun h5 => ?_) (fun h5 => ?_)
      · first | rw [nI_leI (by omega) (by omega)] at h5 | rw [zi_leN (by omega)] at h5 | rw [zi_Nle (by omega)] at h5 | rw [zi_le] at h5
        have e : i = 29 := by omega
        subst e
        refine go_return (pc := 34) dX12_putsBy_34 rfl ?_
        exact ⟨rfl, ⟨hU.1, by rw [hF.2.1 _ (by decide)]; exact hU.2.1, fun q hq => ⟨(hU.2.2 q hq).1, fun k hk => by rw [hK _ (by omega)]; exact (hU.2.2 q hq).2 k hk⟩⟩, hO, hF⟩
      · first | rw [nI_leI (by omega) (by omega)] at h5 | rw [zi_leN (by omega)] at h5 | rw [zi_Nle (by omega)] at h5 | rw [zi_le] at h5
        refine go_aload_n (i := 0) (pc := 8) dX12_putsBy_8 rfl rfl ?_
        refine go_getr2 fl_X12_60 (pc := 9) dX12_putsBy_9 (by rfl) (by rfl) (by rfl) ?_
        refine go_bipush (nI 29) (pc := 12) dX12_putsBy_12 (by decide) ?_
        refine go_aload_n (i := 0) (pc := 14) dX12_putsBy_14 rfl rfl ?_
        refine go_geti fl_X12_181 (pc := 15) dX12_putsBy_15 (by rfl) ?_
        rw [hF.2.1 _ (by decide), hU.2.1]
        first | with_reducible refine go_imulN (pc := 18) dX12_putsBy_18 ?_ | refine go_imul (pc := 18) dX12_putsBy_18 ?_
        refine go_iload_n (i := 1) (pc := 19) dX12_putsBy_19 rfl rfl ?_
        first | with_reducible refine go_iaddN (pc := 20) dX12_putsBy_20 ?_ | refine go_iadd (pc := 20) dX12_putsBy_20 ?_
        refine go_aload_n (i := 0) (pc := 21) dX12_putsBy_21 rfl rfl ?_
        refine go_getr2 fl_X12_36 (pc := 22) dX12_putsBy_22 (by rfl) (by rfl) (by rfl) ?_
        refine go_iload_n (i := 1) (pc := 25) dX12_putsBy_25 rfl rfl ?_
        refine go_iaload _ (pc := 26) dX12_putsBy_26 (by first | rfl | (apply zM_ar <;> assumption)) (by first | rfl | (apply zM_jn <;> assumption)) rfl (by first | assumption | omega) ?_
        rw [hF.2.2.1 7 (by decide), hw i (by omega)]
        refine go_iastore _ (pc := 27) dX12_putsBy_27 (by first | rfl | (apply zM_ar <;> assumption)) (by first | rfl | (apply zM_jn <;> assumption)) rfl (by first | assumption | omega) ?_
        refine go_iincN (pc := 28) dX12_putsBy_28 rfl (by decide) ?_
        refine go_goto 2 (pc := 31) dX12_putsBy_31 (by decide) ?_
        exact ih (29 - (i + 1)) (by omega) (i + 1) rfl _ (by omega) (fun q hq => by rw [uA_s, upd_at]; split; (rename_i e; rw [show q = i by omega]); exact hO q (by omega)) (fun q hq => by rw [uA_s, upd_at, if_neg (by omega)]; exact hK q hq) (hF.uA (by simp))
  refine go_iconst (nI 0) (pc := 0) dX12_putsBy_0 (by decide) ?_
  refine go_istore_n (i := 1) (pc := 1) dX12_putsBy_1 rfl (by decide) ?_
  exact loop 0 σ (by omega) (fun q hq => absurd hq (by omega)) (fun _ _ => rfl) Fr9.rf

theorem c_X12_adds {E : zE} {σ : zT} {ρ : Nat → Nat} {sz n : Nat} {Hs : Nat → Nat → Nat} {a : Int32} (hU : UndoIs σ sz n Hs) (hB : ∀ k, k < 29 → σ.2.1 33 15 (29 * sz + k) = nI (ρ k)) (hok : RowOK n ρ) : CalM E 0 yX12_adds cX12_adds 3 (some .int) [.ref (zA E 33 0), .int a] σ (fun r σ' => r = some (.int a) ∧ UndoIs σ' (min (sz + 1) 15) n (pushH Hs sz ρ) ∧ Fr9 [29] [15] σ σ') := by
  refine cal_of_go (own := RX12) rfl (by decide +kernel) (Nat.le_of_ble_eq_true rfl) ?_
  have h15 := hU.1
  have loop : sz = 15 → ∀ (i : Nat) (τ : zT), i ≤ 435 → (∀ q, τ.2.1 33 15 q = if q < i then (σ.2.1 33 15) (q + 29) else (σ.2.1 33 15) q) → τ.1 33 29 = nI 16 → Fr9 [29] [15] σ τ → GoM E 0 RX12 cX12_adds 3 (some .int) (fun r σ' => r = some (.int a) ∧ UndoIs σ' (min (sz + 1) 15) n (pushH Hs sz ρ) ∧ Fr9 [29] [15] σ σ') τ 21 [(0, .ref (zA E 33 0)), (1, .int a), (2, .int (nI i))] [] := by
    intro hs i
    subst hs
    induction hz : 435 - i using Nat.strongRecOn generalizing i with
    | ind z ih =>
      intro τ hi hO h29 hF
      refine go_iload_n (i := 2) (pc := 21) dX12_adds_21 rfl rfl ?_
      refine go_sipush (nI 435) (pc := 22) dX12_adds_22 (by decide) ?_
      refine go_icmp_ge 49 (pc := 25) dX12_adds_25 (by decide) (fun h25 => ?_) (fun h25 => ?_)
      · first | rw [nI_leI (by omega) (by omega)] at h25 | rw [zi_leN (by omega)] at h25 | rw [zi_Nle (by omega)] at h25 | rw [zi_le] at h25
        have e : i = 435 := by omega
        subst e
        refine go_aload_n (i := 0) (pc := 49) dX12_adds_49 rfl rfl ?_
        refine go_dup (pc := 50) dX12_adds_50 rfl ?_
        refine go_geti fl_X12_181 (pc := 51) dX12_adds_51 (by rfl) ?_
        rw [h29]
        refine go_iconst (nI 1) (pc := 54) dX12_adds_54 (by decide) ?_
        first | with_reducible refine go_isubN (pc := 55) dX12_adds_55 (by omega) ?_ | refine go_isub (pc := 55) dX12_adds_55 ?_
        refine go_puti fp_X12_181 (pc := 56) dX12_adds_56 (by rfl) rfl rfl ?_
        refine go_iload_n (i := 1) (pc := 59) dX12_adds_59 rfl rfl ?_
        refine go_ireturn (pc := 60) dX12_adds_60 rfl ?_
        refine ⟨rfl, ⟨by decide, uS_s _ _ _ _, fun q hq => ?_⟩, hF.uS (by simp)⟩
        have hq : q < 15 := hq
        unfold pushH
        rw [if_pos rfl]
        by_cases h : q = 14
        · rw [if_pos h]
          refine ⟨hok, fun k hk => ?_⟩
          rw [uS_2, hO, if_pos (by omega), show 29 * q + k + 29 = 29 * 15 + k by omega]
          exact hB k hk
        · rw [if_neg h]
          refine ⟨(hU.2.2 (q + 1) (by omega)).1, fun k hk => ?_⟩
          rw [uS_2, hO, if_pos (by omega), show 29 * q + k + 29 = 29 * (q + 1) + k by omega]
          exact (hU.2.2 (q + 1) (by omega)).2 k hk
      · first | rw [nI_leI (by omega) (by omega)] at h25 | rw [zi_leN (by omega)] at h25 | rw [zi_Nle (by omega)] at h25 | rw [zi_le] at h25
        refine go_aload_n (i := 0) (pc := 28) dX12_adds_28 rfl rfl ?_
        refine go_getr2 fl_X12_60 (pc := 29) dX12_adds_29 (by rfl) (by rfl) (by rfl) ?_
        refine go_iload_n (i := 2) (pc := 32) dX12_adds_32 rfl rfl ?_
        refine go_aload_n (i := 0) (pc := 33) dX12_adds_33 rfl rfl ?_
        refine go_getr2 fl_X12_60 (pc := 34) dX12_adds_34 (by rfl) (by rfl) (by rfl) ?_
        refine go_iload_n (i := 2) (pc := 37) dX12_adds_37 rfl rfl ?_
        refine go_bipush (nI 29) (pc := 38) dX12_adds_38 (by decide) ?_
        first | with_reducible refine go_iaddN (pc := 40) dX12_adds_40 ?_ | refine go_iadd (pc := 40) dX12_adds_40 ?_
        refine go_iaload _ (pc := 41) dX12_adds_41 (by first | rfl | (apply zM_ar <;> assumption)) (by first | rfl | (apply zM_jn <;> assumption)) rfl (by first | assumption | omega) ?_
        rw [hO (i + 29), if_neg (by omega)]
        refine go_iastore _ (pc := 42) dX12_adds_42 (by first | rfl | (apply zM_ar <;> assumption)) (by first | rfl | (apply zM_jn <;> assumption)) rfl (by first | assumption | omega) ?_
        refine go_iincN (pc := 43) dX12_adds_43 rfl (by decide) ?_
        refine go_goto 21 (pc := 46) dX12_adds_46 (by decide) ?_
        refine ih (435 - (i + 1)) (by omega) (i + 1) rfl _ (by omega) (fun q => ?_) h29 (hF.uA (by simp))
        rw [uA_s, upd_at]
        by_cases h : q = i
        · rw [if_pos h, if_pos (by omega), h]
        · rw [if_neg h, hO q]
          by_cases h2 : q < i
          · rw [if_pos h2, if_pos (by omega)]
          · rw [if_neg h2, if_neg (by omega)]
  refine go_aload_n (i := 0) (pc := 0) dX12_adds_0 rfl rfl ?_
  refine go_dup (pc := 1) dX12_adds_1 rfl ?_
  refine go_geti fl_X12_181 (pc := 2) dX12_adds_2 (by rfl) ?_
  rw [hU.2.1]
  refine go_iconst (nI 1) (pc := 5) dX12_adds_5 (by decide) ?_
  first | with_reducible refine go_iaddN (pc := 6) dX12_adds_6 ?_ | refine go_iadd (pc := 6) dX12_adds_6 ?_
  refine go_puti fp_X12_181 (pc := 7) dX12_adds_7 (by rfl) rfl rfl ?_
  refine go_aload_n (i := 0) (pc := 10) dX12_adds_10 rfl rfl ?_
  refine go_geti fl_X12_181 (pc := 11) dX12_adds_11 (by rfl) ?_
  rw [uS_s]
  refine go_bipush (nI 15) (pc := 14) dX12_adds_14 (by decide) ?_
  refine go_icmp_le 59 (pc := 16) dX12_adds_16 (by decide) (fun h16 => ?_) (fun h16 => ?_)
  · first | rw [nI_leI (by omega) (by omega)] at h16 | rw [zi_leN (by omega)] at h16 | rw [zi_Nle (by omega)] at h16 | rw [zi_le] at h16
    refine go_iload_n (i := 1) (pc := 59) dX12_adds_59 rfl rfl ?_
    refine go_ireturn (pc := 60) dX12_adds_60 rfl ?_
    refine ⟨rfl, ⟨by omega, by rw [uS_s, show min (sz + 1) 15 = sz + 1 by omega], fun q hq => ?_⟩, Fr9.rf.uS (by simp)⟩
    unfold pushH
    rw [if_neg (by omega)]
    by_cases h : q = sz
    · rw [if_pos h]
      exact ⟨hok, fun k hk => by rw [uS_2, h]; exact hB k hk⟩
    · rw [if_neg h]
      exact hU.2.2 q (by omega)
  · first | rw [nI_leI (by omega) (by omega)] at h16 | rw [zi_leN (by omega)] at h16 | rw [zi_Nle (by omega)] at h16 | rw [zi_le] at h16
    refine go_iconst (nI 0) (pc := 19) dX12_adds_19 (by decide) ?_
    refine go_istore_n (i := 2) (pc := 20) dX12_adds_20 rfl (by decide) ?_
    exact loop (by omega) 0 _ (by omega) (fun q => by rw [if_neg (by omega)]; rfl) (by rw [uS_s, show sz + 1 = 16 by omega]) (Fr9.rf.uS (by simp))

theorem c_X12_counts {E : zE} {σ : zT} {ρ : Nat → Nat} {sz n : Nat} {Hs : Nat → Nat → Nat} {a : Int32} (hU : UndoIs σ sz n Hs) (hB : ∀ k, k < 29 → σ.2.1 33 15 (29 * sz + k) = nI (ρ k)) (hok : RowOK n ρ) : CalM E 1 yX12_counts cX12_counts 2 (some .int) [.ref (zA E 33 0), .int a] σ (fun r σ' => r = some (.int a) ∧ UndoIs σ' (pshA a (sz, Hs) ρ).1 n (pshA a (sz, Hs) ρ).2 ∧ Fr9 [29] [15] σ σ') := by
  refine cal_of_go (own := RX12) rfl (by decide +kernel) (Nat.le_of_ble_eq_true rfl) ?_
  refine go_iload_n (i := 1) (pc := 0) dX12_counts_0 rfl rfl ?_
  refine go_if_ge 8 (pc := 1) dX12_counts_1 (by decide) (fun h1 => ?_) (fun h1 => ?_)
  · first | rw [zb_0d] at h1 | rw [zn_ge0 (by omega)] at h1 | rw [zi_ge0] at h1
    have kA := trivial
    refine go_aload_n (i := 0) (pc := 8) dX12_counts_8 rfl rfl ?_
    refine go_iload_n (i := 1) (pc := 9) dX12_counts_9 rfl rfl ?_
    refine go_callV ml_X12_292 mt_X12_adds (pc := 10) dX12_counts_10 (c_X12_adds hU hB hok) (by rfl) rfl (by rfl) (by decide) (by decide) rfl rfl (Nat.le_of_ble_eq_true rfl) (fun r σ' hp => ?_)
    obtain ⟨rfl, hU2, hF⟩ := hp
    dsimp only [zRet]
    refine go_ireturn (pc := 13) dX12_counts_13 rfl ?_
    unfold pshA
    first
      | (have _ := kA
         rw [if_neg (by omega)]
         exact ⟨rfl, hU2, hF⟩)
      | (rw [if_pos (by omega)]
         exact ⟨rfl, hU, Fr9.rf⟩)
  · first | rw [zb_0d] at h1 | rw [zn_ge0 (by omega)] at h1 | rw [zi_ge0] at h1
    have kB := trivial
    refine go_iload_n (i := 1) (pc := 4) dX12_counts_4 rfl rfl ?_
    refine go_goto 13 (pc := 5) dX12_counts_5 (by decide) ?_
    refine go_ireturn (pc := 13) dX12_counts_13 rfl ?_
    unfold pshA
    first
      | (have _ := kA
         rw [if_neg (by omega)]
         exact ⟨rfl, hU2, hF⟩)
      | (rw [if_pos (by omega)]
         exact ⟨rfl, hU, Fr9.rf⟩)

theorem aPrice_ok {n : Nat} {ρ : Nat → Nat} {w v : Int32} (h : RowOK n ρ) : RowOK n (aPrice ρ w v).2 := by
  unfold aPrice
  split
  · exact h.hi (Or.inr (Or.inl ⟨by omega, by omega⟩))
  · exact h
theorem aGuard_ok {n : Nat} {ρ : Nat → Nat} {w v : Int32} (h : RowOK n ρ) : RowOK n (aGuard n ρ w v).2 := by
  have hn := h.2.1
  unfold aGuard
  split
  · exact h.mn (by omega) (by omega)
  · exact h
theorem aPlant_ok {n : Nat} {ρ : Nat → Nat} {w v : Int32} (h : RowOK n ρ) : RowOK n (aPlant n ρ w v).2 := by
  have hn := h.2.1
  unfold aPlant
  split
  · split
    · exact h
    · exact h.lo (by omega) (by omega)
  · exact h
theorem gateT_ok {n m : Nat} {ρ : Nat → Nat} (h : RowOK n ρ) (hm : m < n) : RowOK n (gateT ρ m) := by
  have hn := h.2.1
  unfold gateT
  refine RowOK.hi ?_ (Or.inl ⟨rfl, xor_ok h.2.2.2.1 hm⟩)
  split
  · exact h
  · exact h.lo (by omega) (by omega)
theorem aGate_ok {n : Nat} {ρ : Nat → Nat} {w : Int32} (h : RowOK n ρ) : RowOK n (aGate n ρ w).2 := by
  unfold aGate
  split
  · exact gateT_ok h (by omega)
  · exact h

theorem c_X12_prices {E : zE} {σ : zT} {ρ : Nat → Nat} {w v : Int32} (hw : RwIs σ 7 ρ) : CalM E 1 yX12_prices cX12_prices 4 (some .int) [.ref (zA E 33 0), .int w, .int v] σ (fun r σ' => r = some (.int (aPrice ρ w v).1) ∧ RwIs σ' 7 (aPrice ρ w v).2 ∧ Fr9 [] [7] σ σ') := by
  refine cal_of_go (own := RX12) rfl (by decide +kernel) (Nat.le_of_ble_eq_true rfl) ?_
  unfold aPrice
  refine go_iload_n (i := 1) (pc := 0) dX12_prices_0 rfl rfl ?_
  refine go_i2l (pc := 1) dX12_prices_1 ?_
  refine go_lconst (lN 0) (pc := 2) dX12_prices_2 (by decide) ?_
  refine go_lconst (lN 1) (pc := 3) dX12_prices_3 (by decide) ?_
  refine go_callS ml_X12_107 mt_X12_in (pc := 4) dX12_prices_4 (c_in (lo := 0) (hi := 1) (by decide) (by decide)) (by decide) (by decide) rfl rfl (Nat.le_of_ble_eq_true rfl) (fun r σ' hp => ?_)
  obtain ⟨rfl, hσ⟩ := hp
  rw [hσ]
  clear hσ σ'
  dsimp only [zRet]
  refine go_if_eq 22 (pc := 7) dX12_prices_7 (by decide) (fun h7 => ?_) (fun h7 => ?_)
  · first | rw [zb_0d] at h7 | rw [zn_eq0 (by omega)] at h7 | rw [zi_eq0] at h7
    refine go_iconst (-1) (pc := 22) dX12_prices_22 (by decide) ?_
    refine go_ireturn (pc := 23) dX12_prices_23 rfl ?_
    rw [if_neg (by omega)]
    exact ⟨rfl, hw, Fr9.rf⟩
  · first | rw [zb_0d] at h7 | rw [zn_eq0 (by omega)] at h7 | rw [zi_eq0] at h7
    refine go_iload_n (i := 2) (pc := 10) dX12_prices_10 rfl rfl ?_
    refine go_i2l (pc := 11) dX12_prices_11 ?_
    refine go_lconst (lN 0) (pc := 12) dX12_prices_12 (by decide) ?_
    refine go_ldc2 (99) kc_X12_301 (pc := 13) dX12_prices_13 ?_
    refine go_callS ml_X12_107 mt_X12_in (pc := 16) dX12_prices_16 (c_in (lo := 0) (hi := 99) (by decide) (by decide)) (by decide) (by decide) rfl rfl (Nat.le_of_ble_eq_true rfl) (fun r σ' hp => ?_)
    obtain ⟨rfl, hσ⟩ := hp
    rw [hσ]
    clear hσ σ'
    dsimp only [zRet]
    refine go_if_ne 24 (pc := 19) dX12_prices_19 (by decide) (fun h19 => ?_) (fun h19 => ?_)
    · first | rw [zb_0d] at h19 | rw [zn_eq0 (by omega)] at h19 | rw [zi_eq0] at h19
      rw [if_pos (by omega)]
      have hw1 : w.toInt ≤ 1 := by omega
      have ew1 := nI_of' (x := w) (by omega)
      generalize hqw1 : w.toInt.toNat = w1 at ew1 ⊢
      subst ew1
      have ev1 := nI_of' (x := v) (by omega)
      generalize hqv1 : v.toInt.toNat = v1 at ev1 ⊢
      subst ev1
      refine go_aload_n (i := 0) (pc := 24) dX12_prices_24 rfl rfl ?_
      refine go_getr2 fl_X12_36 (pc := 25) dX12_prices_25 (by rfl) (by rfl) (by rfl) ?_
      refine go_bipush (nI 25) (pc := 28) dX12_prices_28 (by decide) ?_
      refine go_iload_n (i := 1) (pc := 30) dX12_prices_30 rfl rfl ?_
      first | with_reducible refine go_iaddN (pc := 31) dX12_prices_31 ?_ | refine go_iadd (pc := 31) dX12_prices_31 ?_
      refine go_iaload _ (pc := 32) dX12_prices_32 (by first | rfl | (apply zM_ar <;> assumption)) (by first | rfl | (apply zM_jn <;> assumption)) rfl (by first | assumption | omega) ?_
      rw [hw (25 + w1) (by omega)]
      refine go_istore_n (i := 3) (pc := 33) dX12_prices_33 rfl (by decide) ?_
      refine go_aload_n (i := 0) (pc := 34) dX12_prices_34 rfl rfl ?_
      refine go_getr2 fl_X12_36 (pc := 35) dX12_prices_35 (by rfl) (by rfl) (by rfl) ?_
      refine go_bipush (nI 25) (pc := 38) dX12_prices_38 (by decide) ?_
      refine go_iload_n (i := 1) (pc := 40) dX12_prices_40 rfl rfl ?_
      first | with_reducible refine go_iaddN (pc := 41) dX12_prices_41 ?_ | refine go_iadd (pc := 41) dX12_prices_41 ?_
      refine go_iload_n (i := 2) (pc := 42) dX12_prices_42 rfl rfl ?_
      refine go_iastore (25 + w1) (pc := 43) dX12_prices_43 rfl rfl rfl (by omega) ?_
      refine go_iload_n (i := 3) (pc := 44) dX12_prices_44 rfl rfl ?_
      refine go_ireturn (pc := 45) dX12_prices_45 rfl ?_
      exact ⟨rfl, hw.up, Fr9.rf.uA (by simp)⟩
    · first | rw [zb_0d] at h19 | rw [zn_eq0 (by omega)] at h19 | rw [zi_eq0] at h19
      refine go_iconst (-1) (pc := 22) dX12_prices_22 (by decide) ?_
      refine go_ireturn (pc := 23) dX12_prices_23 rfl ?_
      rw [if_neg (by omega)]
      exact ⟨rfl, hw, Fr9.rf⟩

theorem c_X12_guards {E : zE} {σ : zT} {n : Nat} {ρ : Nat → Nat} {m v : Int32} (h3 : σ.1 33 3 = nI n) (hw : RwIs σ 7 ρ) (hok : RowOK n ρ) : CalM E 2 yX12_guards cX12_guards 3 (some .int) [.ref (zA E 33 0), .int m, .int v] σ (fun r σ' => r = some (.int (aGuard n ρ m v).1) ∧ RwIs σ' 7 (aGuard n ρ m v).2 ∧ Fr9 [] [7] σ σ') := by
  refine cal_of_go (own := RX12) rfl (by decide +kernel) (Nat.le_of_ble_eq_true rfl) ?_
  have hn : 1 ≤ n ∧ n ≤ 12 := ⟨hok.1, hok.2.1⟩
  unfold aGuard
  refine go_aload_n (i := 0) (pc := 0) dX12_guards_0 rfl rfl ?_
  refine go_iload_n (i := 1) (pc := 1) dX12_guards_1 rfl rfl ?_
  refine go_callV ml_X12_276 mt_X12_isMile (pc := 2) dX12_guards_2 (c_X12_isMile h3 (by omega)) (by rfl) rfl (by rfl) (by decide) (by decide) rfl rfl (Nat.le_of_ble_eq_true rfl) (fun r σ' hp => ?_)
  obtain ⟨rfl, hσ⟩ := hp
  rw [hσ]
  clear hσ σ'
  dsimp only [zRet]
  refine go_if_eq 20 (pc := 5) dX12_guards_5 (by decide) (fun h5 => ?_) (fun h5 => ?_)
  · first | rw [zb_0d] at h5 | rw [zn_eq0 (by omega)] at h5 | rw [zi_eq0] at h5
    refine go_iconst (-1) (pc := 20) dX12_guards_20 (by decide) ?_
    refine go_ireturn (pc := 21) dX12_guards_21 rfl ?_
    rw [if_neg (by omega)]
    exact ⟨rfl, hw, Fr9.rf⟩
  · first | rw [zb_0d] at h5 | rw [zn_eq0 (by omega)] at h5 | rw [zi_eq0] at h5
    refine go_iload_n (i := 2) (pc := 8) dX12_guards_8 rfl rfl ?_
    refine go_i2l (pc := 9) dX12_guards_9 ?_
    refine go_lconst (lN 0) (pc := 10) dX12_guards_10 (by decide) ?_
    refine go_ldc2 (9) kc_X12_303 (pc := 11) dX12_guards_11 ?_
    refine go_callS ml_X12_107 mt_X12_in (pc := 14) dX12_guards_14 (c_in (lo := 0) (hi := 9) (by decide) (by decide)) (by decide) (by decide) rfl rfl (Nat.le_of_ble_eq_true rfl) (fun r σ' hp => ?_)
    obtain ⟨rfl, hσ⟩ := hp
    rw [hσ]
    clear hσ σ'
    dsimp only [zRet]
    refine go_if_ne 22 (pc := 17) dX12_guards_17 (by decide) (fun h17 => ?_) (fun h17 => ?_)
    · first | rw [zb_0d] at h17 | rw [zn_eq0 (by omega)] at h17 | rw [zi_eq0] at h17
      rw [if_pos (by omega)]
      have hm : m.toInt < (n : Int) := by omega
      have hv : v.toInt ≤ 9 := by omega
      have em1 := nI_of' (x := m) (by omega)
      generalize hqm1 : m.toInt.toNat = m1 at em1 ⊢
      subst em1
      have ev1 := nI_of' (x := v) (by omega)
      generalize hqv1 : v.toInt.toNat = v1 at ev1 ⊢
      subst ev1
      refine go_aload_n (i := 0) (pc := 22) dX12_guards_22 rfl rfl ?_
      refine go_getr2 fl_X12_36 (pc := 23) dX12_guards_23 (by rfl) (by rfl) (by rfl) ?_
      refine go_bipush (nI 12) (pc := 26) dX12_guards_26 (by decide) ?_
      refine go_iload_n (i := 1) (pc := 28) dX12_guards_28 rfl rfl ?_
      first | with_reducible refine go_iaddN (pc := 29) dX12_guards_29 ?_ | refine go_iadd (pc := 29) dX12_guards_29 ?_
      refine go_iload_n (i := 2) (pc := 30) dX12_guards_30 rfl rfl ?_
      refine go_iastore (12 + m1) (pc := 31) dX12_guards_31 rfl rfl rfl (by omega) ?_
      refine go_aload_n (i := 0) (pc := 32) dX12_guards_32 rfl rfl ?_
      refine go_aload_n (i := 0) (pc := 33) dX12_guards_33 rfl rfl ?_
      refine go_getr2 fl_X12_36 (pc := 34) dX12_guards_34 (by rfl) (by rfl) (by rfl) ?_
      refine go_callV ml_X12_259 mt_X12_allMen (pc := 37) dX12_guards_37 (c_X12_allMen (j := 7) rfl hw.up (hok.mn (by omega) (by omega)) h3) (by rfl) rfl (by rfl) (by decide) (by decide) rfl rfl (Nat.le_of_ble_eq_true rfl) (fun r σ' hp => ?_)
      obtain ⟨rfl, hσ⟩ := hp
      rw [hσ]
      clear hσ σ'
      dsimp only [zRet]
      refine go_ireturn (pc := 40) dX12_guards_40 rfl ?_
      exact ⟨rfl, hw.up, Fr9.rf.uA (by simp)⟩
    · first | rw [zb_0d] at h17 | rw [zn_eq0 (by omega)] at h17 | rw [zi_eq0] at h17
      refine go_iconst (-1) (pc := 20) dX12_guards_20 (by decide) ?_
      refine go_ireturn (pc := 21) dX12_guards_21 rfl ?_
      rw [if_neg (by omega)]
      exact ⟨rfl, hw, Fr9.rf⟩

theorem c_X12_plants {E : zE} {σ : zT} {n : Nat} {ρ : Nat → Nat} {m v : Int32} (h3 : σ.1 33 3 = nI n) (hw : RwIs σ 7 ρ) (hok : RowOK n ρ) : CalM E 2 yX12_plants cX12_plants 3 (some .int) [.ref (zA E 33 0), .int m, .int v] σ (fun r σ' => r = some (.int (aPlant n ρ m v).1) ∧ RwIs σ' 7 (aPlant n ρ m v).2 ∧ Fr9 [] [7] σ σ') := by
  refine cal_of_go (own := RX12) rfl (by decide +kernel) (Nat.le_of_ble_eq_true rfl) ?_
  have hn : 1 ≤ n ∧ n ≤ 12 := ⟨hok.1, hok.2.1⟩
  have hg : ρ 24 < 2 ^ 12 := Nat.lt_of_lt_of_le hok.2.2.2.1 (Nat.pow_le_pow_right (by decide) hn.2)
  unfold aPlant
  refine go_aload_n (i := 0) (pc := 0) dX12_plants_0 rfl rfl ?_
  refine go_iload_n (i := 1) (pc := 1) dX12_plants_1 rfl rfl ?_
  refine go_callV ml_X12_276 mt_X12_isMile (pc := 2) dX12_plants_2 (c_X12_isMile h3 (by omega)) (by rfl) rfl (by rfl) (by decide) (by decide) rfl rfl (Nat.le_of_ble_eq_true rfl) (fun r σ' hp => ?_)
  obtain ⟨rfl, hσ⟩ := hp
  rw [hσ]
  clear hσ σ'
  dsimp only [zRet]
  refine go_if_eq 20 (pc := 5) dX12_plants_5 (by decide) (fun h5 => ?_) (fun h5 => ?_)
  · first | rw [zb_0d] at h5 | rw [zn_eq0 (by omega)] at h5 | rw [zi_eq0] at h5
    refine go_iconst (-1) (pc := 20) dX12_plants_20 (by decide) ?_
    refine go_ireturn (pc := 21) dX12_plants_21 rfl ?_
    rw [if_neg (by omega)]
    exact ⟨rfl, hw, Fr9.rf⟩
  · first | rw [zb_0d] at h5 | rw [zn_eq0 (by omega)] at h5 | rw [zi_eq0] at h5
    refine go_iload_n (i := 2) (pc := 8) dX12_plants_8 rfl rfl ?_
    refine go_i2l (pc := 9) dX12_plants_9 ?_
    refine go_lconst (lN 1) (pc := 10) dX12_plants_10 (by decide) ?_
    refine go_ldc2 (9) kc_X12_303 (pc := 11) dX12_plants_11 ?_
    refine go_callS ml_X12_107 mt_X12_in (pc := 14) dX12_plants_14 (c_in (lo := 1) (hi := 9) (by decide) (by decide)) (by decide) (by decide) rfl rfl (Nat.le_of_ble_eq_true rfl) (fun r σ' hp => ?_)
    obtain ⟨rfl, hσ⟩ := hp
    rw [hσ]
    clear hσ σ'
    dsimp only [zRet]
    refine go_if_ne 22 (pc := 17) dX12_plants_17 (by decide) (fun h17 => ?_) (fun h17 => ?_)
    · first | rw [zb_0d] at h17 | rw [zn_eq0 (by omega)] at h17 | rw [zi_eq0] at h17
      rw [if_pos (by omega)]
      have hm : m.toInt < (n : Int) := by omega
      have hv : v.toInt ≤ 9 := by omega
      have em1 := nI_of' (x := m) (by omega)
      generalize hqm1 : m.toInt.toNat = m1 at em1 ⊢
      subst em1
      have ev1 := nI_of' (x := v) (by omega)
      generalize hqv1 : v.toInt.toNat = v1 at ev1 ⊢
      subst ev1
      have hm9 := hok.2.2.1 m1 (by omega)
      refine go_aload_n (i := 0) (pc := 22) dX12_plants_22 rfl rfl ?_
      refine go_aload_n (i := 0) (pc := 23) dX12_plants_23 rfl rfl ?_
      refine go_getr2 fl_X12_36 (pc := 24) dX12_plants_24 (by rfl) (by rfl) (by rfl) ?_
      refine go_iload_n (i := 1) (pc := 27) dX12_plants_27 rfl rfl ?_
      refine go_callV ml_X12_247 mt_X12_isGate (pc := 28) dX12_plants_28 (c_X12_isGate (j := 7) rfl hw hg (by omega)) (by rfl) rfl (by rfl) (by decide) (by decide) rfl rfl (Nat.le_of_ble_eq_true rfl) (fun r σ' hp => ?_)
      obtain ⟨rfl, hσ⟩ := hp
      rw [hσ]
      clear hσ σ'
      dsimp only [zRet]
      refine go_if_eq 37 (pc := 31) dX12_plants_31 (by decide) (fun h31 => ?_) (fun h31 => ?_)
      · rw [zb_0] at h31
        rw [if_neg (by rw [h31]; decide)]
        refine go_aload_n (i := 0) (pc := 37) dX12_plants_37 rfl rfl ?_
        refine go_getr2 fl_X12_36 (pc := 38) dX12_plants_38 (by rfl) (by rfl) (by rfl) ?_
        refine go_iload_n (i := 1) (pc := 41) dX12_plants_41 rfl rfl ?_
        refine go_bipush (nI 9) (pc := 42) dX12_plants_42 (by decide) ?_
        refine go_aload_n (i := 0) (pc := 44) dX12_plants_44 rfl rfl ?_
        refine go_getr2 fl_X12_36 (pc := 45) dX12_plants_45 (by rfl) (by rfl) (by rfl) ?_
        refine go_iload_n (i := 1) (pc := 48) dX12_plants_48 rfl rfl ?_
        refine go_iaload _ (pc := 49) dX12_plants_49 (by first | rfl | (apply zM_ar <;> assumption)) (by first | rfl | (apply zM_jn <;> assumption)) rfl (by first | assumption | omega) ?_
        rw [hw m1 (by omega)]
        refine go_iload_n (i := 2) (pc := 50) dX12_plants_50 rfl rfl ?_
        first | with_reducible refine go_iaddN (pc := 51) dX12_plants_51 ?_ | refine go_iadd (pc := 51) dX12_plants_51 ?_
        refine go_callS ml_X12_127 mt_J9_min_7cf53 (pc := 52) dX12_plants_52 (c_J9_minN (by decide) (by omega)) (by decide) (by decide) rfl rfl (Nat.le_of_ble_eq_true rfl) (fun r σ' hp => ?_)
        obtain ⟨rfl, hσ⟩ := hp
        rw [hσ]
        clear hσ σ'
        dsimp only [zRet]
        refine go_iastore m1 (pc := 55) dX12_plants_55 rfl rfl rfl (by omega) ?_
        refine go_aload_n (i := 0) (pc := 56) dX12_plants_56 rfl rfl ?_
        refine go_getr2 fl_X12_36 (pc := 57) dX12_plants_57 (by rfl) (by rfl) (by rfl) ?_
        refine go_iload_n (i := 1) (pc := 60) dX12_plants_60 rfl rfl ?_
        refine go_iaload _ (pc := 61) dX12_plants_61 (by first | rfl | (apply zM_ar <;> assumption)) (by first | rfl | (apply zM_jn <;> assumption)) rfl (by first | assumption | omega) ?_
        rw [(hw.up (i := m1)) m1 (by omega), va_at', if_pos rfl]
        refine go_ireturn (pc := 62) dX12_plants_62 rfl ?_
        exact ⟨rfl, hw.up, Fr9.rf.uA (by simp)⟩
      · rw [zb_0] at h31
        have h31 : (ρ 24).testBit m1 = true := by simpa using h31
        rw [if_pos h31]
        refine go_bipush (-2) (pc := 34) dX12_plants_34 (by decide) ?_
        refine go_ireturn (pc := 36) dX12_plants_36 rfl ?_
        exact ⟨rfl, hw, Fr9.rf⟩
    · first | rw [zb_0d] at h17 | rw [zn_eq0 (by omega)] at h17 | rw [zi_eq0] at h17
      refine go_iconst (-1) (pc := 20) dX12_plants_20 (by decide) ?_
      refine go_ireturn (pc := 21) dX12_plants_21 rfl ?_
      rw [if_neg (by omega)]
      exact ⟨rfl, hw, Fr9.rf⟩

theorem c_X12_gates {E : zE} {σ : zT} {n : Nat} {ρ : Nat → Nat} {m : Int32} (h3 : σ.1 33 3 = nI n) (hw : RwIs σ 7 ρ) (hok : RowOK n ρ) : CalM E 2 yX12_gates cX12_gates 2 (some .int) [.ref (zA E 33 0), .int m] σ (fun r σ' => r = some (.int (aGate n ρ m).1) ∧ RwIs σ' 7 (aGate n ρ m).2 ∧ Fr9 [] [7] σ σ') := by
  refine cal_of_go (own := RX12) rfl (by decide +kernel) (Nat.le_of_ble_eq_true rfl) ?_
  have hn : 1 ≤ n ∧ n ≤ 12 := ⟨hok.1, hok.2.1⟩
  have hg : ρ 24 < 2 ^ 12 := Nat.lt_of_lt_of_le hok.2.2.2.1 (Nat.pow_le_pow_right (by decide) hn.2)
  unfold aGate
  refine go_aload_n (i := 0) (pc := 0) dX12_gates_0 rfl rfl ?_
  refine go_iload_n (i := 1) (pc := 1) dX12_gates_1 rfl rfl ?_
  refine go_callV ml_X12_276 mt_X12_isMile (pc := 2) dX12_gates_2 (c_X12_isMile h3 (by omega)) (by rfl) rfl (by rfl) (by decide) (by decide) rfl rfl (Nat.le_of_ble_eq_true rfl) (fun r σ' hp => ?_)
  obtain ⟨rfl, hσ⟩ := hp
  rw [hσ]
  clear hσ σ'
  dsimp only [zRet]
  refine go_if_ne 10 (pc := 5) dX12_gates_5 (by decide) (fun h5 => ?_) (fun h5 => ?_)
  · first | rw [zb_0d] at h5 | rw [zn_eq0 (by omega)] at h5 | rw [zi_eq0] at h5
    rw [if_pos (by omega)]
    have hm : m.toInt < (n : Int) := by omega
    have em1 := nI_of' (x := m) (by omega)
    generalize hqm1 : m.toInt.toNat = m1 at em1 ⊢
    subst em1
    have hm9 := hok.2.2.1 m1 (by omega)
    have hxr : ρ 24 ^^^ 2 ^ m1 < 2 ^ 12 := xor_ok hg (by omega)
    refine go_aload_n (i := 0) (pc := 10) dX12_gates_10 rfl rfl ?_
    refine go_getr2 fl_X12_36 (pc := 11) dX12_gates_11 (by rfl) (by rfl) (by rfl) ?_
    refine go_iload_n (i := 1) (pc := 14) dX12_gates_14 rfl rfl ?_
    refine go_aload_n (i := 0) (pc := 15) dX12_gates_15 rfl rfl ?_
    refine go_aload_n (i := 0) (pc := 16) dX12_gates_16 rfl rfl ?_
    refine go_getr2 fl_X12_36 (pc := 17) dX12_gates_17 (by rfl) (by rfl) (by rfl) ?_
    refine go_iload_n (i := 1) (pc := 20) dX12_gates_20 rfl rfl ?_
    refine go_callV ml_X12_247 mt_X12_isGate (pc := 21) dX12_gates_21 (c_X12_isGate (j := 7) rfl hw hg (by omega)) (by rfl) rfl (by rfl) (by decide) (by decide) rfl rfl (Nat.le_of_ble_eq_true rfl) (fun r σ' hp => ?_)
    obtain ⟨rfl, hσ⟩ := hp
    rw [hσ]
    clear hσ σ'
    dsimp only [zRet]
    refine go_if_eq 36 (pc := 24) dX12_gates_24 (by decide) (fun h24 => ?_) (fun h24 => ?_)
    · rw [zb_0] at h24
      have hgb : ¬ (ρ 24).testBit m1 = true := by rw [h24]; decide
      refine go_iconst (nI 0) (pc := 36) dX12_gates_36 (by decide) ?_
      refine go_top (congrArg (fun z => Value.int (nI z)) (show _ = (if (ρ 24).testBit m1 then ρ m1 else 0) by first | rw [if_pos hgb] | rw [if_neg hgb])) ?_
      refine go_iastore m1 (pc := 37) dX12_gates_37 rfl rfl rfl (by omega) ?_
      have hw2 := hw.up (i := m1) (v := if (ρ 24).testBit m1 then ρ m1 else 0)
      have hF2 : Fr9 [] [7] σ (uA σ 33 7 (upd (σ.2.1 33 7) m1 (nI (if (ρ 24).testBit m1 then ρ m1 else 0)))) := Fr9.rf.uA (by simp)
      generalize uA σ 33 7 (upd (σ.2.1 33 7) m1 (nI (if (ρ 24).testBit m1 then ρ m1 else 0))) = τ2 at hw2 hF2 ⊢
      have e24 : va_up ρ m1 (if (ρ 24).testBit m1 then ρ m1 else 0) 24 = ρ 24 := by rw [va_at', if_neg (by omega)]
      refine go_aload_n (i := 0) (pc := 38) dX12_gates_38 rfl rfl ?_
      refine go_getr2 fl_X12_36 (pc := 39) dX12_gates_39 (by rfl) (by rfl) (by rfl) ?_
      refine go_bipush (nI 24) (pc := 42) dX12_gates_42 (by decide) ?_
      refine go_dup2 (pc := 44) dX12_gates_44 rfl rfl ?_
      refine go_iaload 24 (pc := 45) dX12_gates_45 rfl rfl rfl (by decide) ?_
      rw [hw2 24 (by decide), e24]
      refine go_iconst (nI 1) (pc := 46) dX12_gates_46 (by decide) ?_
      refine go_iload_n (i := 1) (pc := 47) dX12_gates_47 rfl rfl ?_
      refine go_ishl (pc := 48) dX12_gates_48 ?_
      rw [zshl1 m1 (by omega)]
      refine go_ixor (pc := 49) dX12_gates_49 ?_
      rw [zxorN]
      refine go_iastore _ (pc := 50) dX12_gates_50 (by first | rfl | (apply zM_ar <;> assumption)) (by first | rfl | (apply zM_jn <;> assumption)) rfl (by first | assumption | omega) ?_
      refine go_aload_n (i := 0) (pc := 51) dX12_gates_51 rfl rfl ?_
      refine go_getr2 fl_X12_36 (pc := 52) dX12_gates_52 (by rfl) (by rfl) (by rfl) ?_
      refine go_bipush (nI 24) (pc := 55) dX12_gates_55 (by decide) ?_
      refine go_iaload _ (pc := 57) dX12_gates_57 (by first | rfl | (apply zM_ar <;> assumption)) (by first | rfl | (apply zM_jn <;> assumption)) rfl (by first | assumption | omega) ?_
      rw [(hw2.up (i := 24)) 24 (by omega), va_at', if_pos rfl]
      refine go_callS ml_X12_305 mt_J6_bitCount_0f7a4 (pc := 58) dX12_gates_58 (c_bc hxr) (by decide) (by decide) rfl rfl (Nat.le_of_ble_eq_true rfl) (fun r σ' hp => ?_)
      obtain ⟨rfl, hσ⟩ := hp
      rw [hσ]
      clear hσ σ'
      dsimp only [zRet]
      refine go_ireturn (pc := 61) dX12_gates_61 rfl ?_
      refine ⟨rfl, hw2.up.cg (fun q hq => ?_), hF2.uA (by simp)⟩
      unfold gateT
      rw [va_at', va_at', va_at']
      by_cases h : q = 24
      · rw [if_pos h, if_pos h]
      · rw [if_neg h, if_neg h]
        by_cases hb : (ρ 24).testBit m1 = true
        · rw [if_pos hb, if_pos hb]
          split
          · subst_vars; rfl
          · rfl
        · rw [if_neg hb, if_neg hb, va_at']
    · rw [zb_0] at h24
      have hgb : (ρ 24).testBit m1 = true := by simpa using h24
      refine go_aload_n (i := 0) (pc := 27) dX12_gates_27 rfl rfl ?_
      refine go_getr2 fl_X12_36 (pc := 28) dX12_gates_28 (by rfl) (by rfl) (by rfl) ?_
      refine go_iload_n (i := 1) (pc := 31) dX12_gates_31 rfl rfl ?_
      refine go_iaload _ (pc := 32) dX12_gates_32 (by first | rfl | (apply zM_ar <;> assumption)) (by first | rfl | (apply zM_jn <;> assumption)) rfl (by first | assumption | omega) ?_
      rw [hw m1 (by omega)]
      refine go_goto 37 (pc := 33) dX12_gates_33 (by decide) ?_
      refine go_top (congrArg (fun z => Value.int (nI z)) (show _ = (if (ρ 24).testBit m1 then ρ m1 else 0) by first | rw [if_pos hgb] | rw [if_neg hgb])) ?_
      refine go_iastore m1 (pc := 37) dX12_gates_37 rfl rfl rfl (by omega) ?_
      have hw2 := hw.up (i := m1) (v := if (ρ 24).testBit m1 then ρ m1 else 0)
      have hF2 : Fr9 [] [7] σ (uA σ 33 7 (upd (σ.2.1 33 7) m1 (nI (if (ρ 24).testBit m1 then ρ m1 else 0)))) := Fr9.rf.uA (by simp)
      generalize uA σ 33 7 (upd (σ.2.1 33 7) m1 (nI (if (ρ 24).testBit m1 then ρ m1 else 0))) = τ2 at hw2 hF2 ⊢
      have e24 : va_up ρ m1 (if (ρ 24).testBit m1 then ρ m1 else 0) 24 = ρ 24 := by rw [va_at', if_neg (by omega)]
      refine go_aload_n (i := 0) (pc := 38) dX12_gates_38 rfl rfl ?_
      refine go_getr2 fl_X12_36 (pc := 39) dX12_gates_39 (by rfl) (by rfl) (by rfl) ?_
      refine go_bipush (nI 24) (pc := 42) dX12_gates_42 (by decide) ?_
      refine go_dup2 (pc := 44) dX12_gates_44 rfl rfl ?_
      refine go_iaload 24 (pc := 45) dX12_gates_45 rfl rfl rfl (by decide) ?_
      rw [hw2 24 (by decide), e24]
      refine go_iconst (nI 1) (pc := 46) dX12_gates_46 (by decide) ?_
      refine go_iload_n (i := 1) (pc := 47) dX12_gates_47 rfl rfl ?_
      refine go_ishl (pc := 48) dX12_gates_48 ?_
      rw [zshl1 m1 (by omega)]
      refine go_ixor (pc := 49) dX12_gates_49 ?_
      rw [zxorN]
      refine go_iastore _ (pc := 50) dX12_gates_50 (by first | rfl | (apply zM_ar <;> assumption)) (by first | rfl | (apply zM_jn <;> assumption)) rfl (by first | assumption | omega) ?_
      refine go_aload_n (i := 0) (pc := 51) dX12_gates_51 rfl rfl ?_
      refine go_getr2 fl_X12_36 (pc := 52) dX12_gates_52 (by rfl) (by rfl) (by rfl) ?_
      refine go_bipush (nI 24) (pc := 55) dX12_gates_55 (by decide) ?_
      refine go_iaload _ (pc := 57) dX12_gates_57 (by first | rfl | (apply zM_ar <;> assumption)) (by first | rfl | (apply zM_jn <;> assumption)) rfl (by first | assumption | omega) ?_
      rw [(hw2.up (i := 24)) 24 (by omega), va_at', if_pos rfl]
      refine go_callS ml_X12_305 mt_J6_bitCount_0f7a4 (pc := 58) dX12_gates_58 (c_bc hxr) (by decide) (by decide) rfl rfl (Nat.le_of_ble_eq_true rfl) (fun r σ' hp => ?_)
      obtain ⟨rfl, hσ⟩ := hp
      rw [hσ]
      clear hσ σ'
      dsimp only [zRet]
      refine go_ireturn (pc := 61) dX12_gates_61 rfl ?_
      refine ⟨rfl, hw2.up.cg (fun q hq => ?_), hF2.uA (by simp)⟩
      unfold gateT
      rw [va_at', va_at', va_at']
      by_cases h : q = 24
      · rw [if_pos h, if_pos h]
      · rw [if_neg h, if_neg h]
        by_cases hb : (ρ 24).testBit m1 = true
        · rw [if_pos hb, if_pos hb]
          split
          · subst_vars; rfl
          · rfl
        · rw [if_neg hb, if_neg hb, va_at']
  · first | rw [zb_0d] at h5 | rw [zn_eq0 (by omega)] at h5 | rw [zi_eq0] at h5
    refine go_iconst (-1) (pc := 8) dX12_gates_8 (by decide) ?_
    refine go_ireturn (pc := 9) dX12_gates_9 rfl ?_
    rw [if_neg (by omega)]
    exact ⟨rfl, hw, Fr9.rf⟩

theorem c_X12_price {E : zE} {σ : zT} {tx : Nat × (Nat → Nat)} {bd : Nat × (Nat → Nat) × (Nat → Nat)} {sk : Nat × (Nat → Nat)} {tw : Nat × (Nat → Nat) × (Nat → Nat)} {xs : List Nat} {ld : Nat × (Nat → Nat)} {pa sh : Nat × (Nat → Nat → Nat)} {ru : Nat × (Nat → Nat) × (Nat → Nat)} {to : Nat × (Nat → Int64)} {w v : Int32} (hC : RefIs σ tx bd sk tw xs ld pa sh ru to) : CalM E 3 yX12_price cX12_price 3 (some .int) [.ref (zA E 33 0), .int w, .int v] σ (fun r σ' => r = some (.int (aPrice ld.2 w v).1) ∧ RefIs σ' tx bd sk tw xs (ld.1, (aPrice ld.2 w v).2) (pshA (aPrice ld.2 w v).1 pa ld.2) sh ru to ∧ FrG [33] σ σ') := by
  refine cal_of_go (own := RX12) rfl (by decide +kernel) (Nat.le_of_ble_eq_true rfl) ?_
  refine go_aload_n (i := 0) (pc := 0) dX12_price_0 rfl rfl ?_
  refine go_iconst (nI 0) (pc := 1) dX12_price_1 (by decide) ?_
  refine go_puti fp_X12_97 (pc := 2) dX12_price_2 (by rfl) rfl rfl ?_
  obtain ⟨hC0, hG0, ht0⟩ := hC.t0
  generalize uS σ 33 0 (nI 0) = τ0 at hC0 hG0 ht0 ⊢
  have hN := hC0.2.2.2.2.2.1
  have hU := hC0.2.2.2.2.2.2.1
  refine go_aload_n (i := 0) (pc := 5) dX12_price_5 rfl rfl ?_
  refine go_callV ml_X12_310 mt_X12_putsBy (pc := 6) dX12_price_6 (c_X12_putsBy hN.2.2 hU) (by rfl) rfl (by rfl) (by decide) (by decide) rfl rfl (Nat.le_of_ble_eq_true rfl) (fun r σ' hp => ?_)
  obtain ⟨rfl, hU1, hB1, hF1⟩ := hp
  dsimp only [zRet]
  have hC1 : RefIs σ' tx bd sk tw xs ld pa sh ru to := ⟨(hC0.1).fr hF1 (by decide) (by decide), (hC0.2.1).fr hF1 (by decide) (by decide), (hC0.2.2.1).fr hF1 (by decide) (by decide) (by decide), (hC0.2.2.2.1).fr hF1 (by decide) (by decide), (hC0.2.2.2.2.1).fr hF1 (by decide) (by decide) (by decide), (hC0.2.2.2.2.2.1).fr hF1 (by decide) (by decide), hU1, (hC0.2.2.2.2.2.2.2.1).fr hF1 (by decide) (by decide), (hC0.2.2.2.2.2.2.2.2.1).fr hF1 (by decide) (by decide) (by decide), (hC0.2.2.2.2.2.2.2.2.2).fr hF1 (by decide) (by decide)⟩
  have hN1 := hC1.2.2.2.2.2.1
  refine go_aload_n (i := 0) (pc := 9) dX12_price_9 rfl rfl ?_
  refine go_aload_n (i := 0) (pc := 10) dX12_price_10 rfl rfl ?_
  refine go_iload_n (i := 1) (pc := 11) dX12_price_11 rfl rfl ?_
  refine go_iload_n (i := 2) (pc := 12) dX12_price_12 rfl rfl ?_
  refine go_callV ml_X12_313 mt_X12_prices (pc := 13) dX12_price_13 (c_X12_prices hN1.2.2) (by rfl) rfl (by rfl) (by decide) (by decide) rfl rfl (Nat.le_of_ble_eq_true rfl) (fun r σ' hp => ?_)
  obtain ⟨rfl, hw2, hF2⟩ := hp
  dsimp only [zRet]
  have hU2 := hU1.fr hF2 (by decide) (by decide)
  have hB2 : ∀ k, k < 29 → σ'.2.1 33 15 (29 * pa.1 + k) = nI (ld.2 k) := fun k hk => by rw [hF2.2.2.1 15 (by decide)]; exact hB1 k hk
  refine go_callV ml_X12_316 mt_X12_counts (pc := 16) dX12_price_16 (c_X12_counts hU2 hB2 hN.2.1) (by rfl) rfl (by rfl) (by decide) (by decide) rfl rfl (Nat.le_of_ble_eq_true rfl) (fun r σ' hp => ?_)
  obtain ⟨rfl, hU3, hF3⟩ := hp
  dsimp only [zRet]
  have hF4 := (hF2.mono (fs2 := [29]) (js2 := [7, 15]) (by simp) (by simp)).tr (hF3.mono (by simp) (by simp))
  have hw3 := hw2.fr hF3 (by decide)
  refine go_ireturn (pc := 19) dX12_price_19 rfl ?_
  exact ⟨rfl, ⟨(hC1.1).fr hF4 (by decide) (by decide), (hC1.2.1).fr hF4 (by decide) (by decide), (hC1.2.2.1).fr hF4 (by decide) (by decide) (by decide), (hC1.2.2.2.1).fr hF4 (by decide) (by decide), (hC1.2.2.2.2.1).fr hF4 (by decide) (by decide) (by decide), ⟨by rw [hF4.2.1 _ (by decide)]; exact hN1.1, aPrice_ok hN.2.1, hw3⟩, hU3, (hC1.2.2.2.2.2.2.2.1).fr hF4 (by decide) (by decide), (hC1.2.2.2.2.2.2.2.2.1).fr hF4 (by decide) (by decide) (by decide), (hC1.2.2.2.2.2.2.2.2.2).fr hF4 (by decide) (by decide)⟩, (hG0.tr hF1.1).tr hF4.1⟩

theorem c_X12_guard {E : zE} {σ : zT} {tx : Nat × (Nat → Nat)} {bd : Nat × (Nat → Nat) × (Nat → Nat)} {sk : Nat × (Nat → Nat)} {tw : Nat × (Nat → Nat) × (Nat → Nat)} {xs : List Nat} {ld : Nat × (Nat → Nat)} {pa sh : Nat × (Nat → Nat → Nat)} {ru : Nat × (Nat → Nat) × (Nat → Nat)} {to : Nat × (Nat → Int64)} {m v : Int32} (hC : RefIs σ tx bd sk tw xs ld pa sh ru to) : CalM E 3 yX12_guard cX12_guard 3 (some .int) [.ref (zA E 33 0), .int m, .int v] σ (fun r σ' => r = some (.int (aGuard ld.1 ld.2 m v).1) ∧ RefIs σ' tx bd sk tw xs (ld.1, (aGuard ld.1 ld.2 m v).2) (pshA (aGuard ld.1 ld.2 m v).1 pa ld.2) sh ru to ∧ FrG [33] σ σ') := by
  refine cal_of_go (own := RX12) rfl (by decide +kernel) (Nat.le_of_ble_eq_true rfl) ?_
  refine go_aload_n (i := 0) (pc := 0) dX12_guard_0 rfl rfl ?_
  refine go_iconst (nI 0) (pc := 1) dX12_guard_1 (by decide) ?_
  refine go_puti fp_X12_97 (pc := 2) dX12_guard_2 (by rfl) rfl rfl ?_
  obtain ⟨hC0, hG0, ht0⟩ := hC.t0
  generalize uS σ 33 0 (nI 0) = τ0 at hC0 hG0 ht0 ⊢
  have hN := hC0.2.2.2.2.2.1
  have hU := hC0.2.2.2.2.2.2.1
  refine go_aload_n (i := 0) (pc := 5) dX12_guard_5 rfl rfl ?_
  refine go_callV ml_X12_310 mt_X12_putsBy (pc := 6) dX12_guard_6 (c_X12_putsBy hN.2.2 hU) (by rfl) rfl (by rfl) (by decide) (by decide) rfl rfl (Nat.le_of_ble_eq_true rfl) (fun r σ' hp => ?_)
  obtain ⟨rfl, hU1, hB1, hF1⟩ := hp
  dsimp only [zRet]
  have hC1 : RefIs σ' tx bd sk tw xs ld pa sh ru to := ⟨(hC0.1).fr hF1 (by decide) (by decide), (hC0.2.1).fr hF1 (by decide) (by decide), (hC0.2.2.1).fr hF1 (by decide) (by decide) (by decide), (hC0.2.2.2.1).fr hF1 (by decide) (by decide), (hC0.2.2.2.2.1).fr hF1 (by decide) (by decide) (by decide), (hC0.2.2.2.2.2.1).fr hF1 (by decide) (by decide), hU1, (hC0.2.2.2.2.2.2.2.1).fr hF1 (by decide) (by decide), (hC0.2.2.2.2.2.2.2.2.1).fr hF1 (by decide) (by decide) (by decide), (hC0.2.2.2.2.2.2.2.2.2).fr hF1 (by decide) (by decide)⟩
  have hN1 := hC1.2.2.2.2.2.1
  refine go_aload_n (i := 0) (pc := 9) dX12_guard_9 rfl rfl ?_
  refine go_aload_n (i := 0) (pc := 10) dX12_guard_10 rfl rfl ?_
  refine go_iload_n (i := 1) (pc := 11) dX12_guard_11 rfl rfl ?_
  refine go_iload_n (i := 2) (pc := 12) dX12_guard_12 rfl rfl ?_
  refine go_callV ml_X12_319 mt_X12_guards (pc := 13) dX12_guard_13 (c_X12_guards hN1.1 hN1.2.2 hN1.2.1) (by rfl) rfl (by rfl) (by decide) (by decide) rfl rfl (Nat.le_of_ble_eq_true rfl) (fun r σ' hp => ?_)
  obtain ⟨rfl, hw2, hF2⟩ := hp
  dsimp only [zRet]
  have hU2 := hU1.fr hF2 (by decide) (by decide)
  have hB2 : ∀ k, k < 29 → σ'.2.1 33 15 (29 * pa.1 + k) = nI (ld.2 k) := fun k hk => by rw [hF2.2.2.1 15 (by decide)]; exact hB1 k hk
  refine go_callV ml_X12_316 mt_X12_counts (pc := 16) dX12_guard_16 (c_X12_counts hU2 hB2 hN.2.1) (by rfl) rfl (by rfl) (by decide) (by decide) rfl rfl (Nat.le_of_ble_eq_true rfl) (fun r σ' hp => ?_)
  obtain ⟨rfl, hU3, hF3⟩ := hp
  dsimp only [zRet]
  have hF4 := (hF2.mono (fs2 := [29]) (js2 := [7, 15]) (by simp) (by simp)).tr (hF3.mono (by simp) (by simp))
  have hw3 := hw2.fr hF3 (by decide)
  refine go_ireturn (pc := 19) dX12_guard_19 rfl ?_
  exact ⟨rfl, ⟨(hC1.1).fr hF4 (by decide) (by decide), (hC1.2.1).fr hF4 (by decide) (by decide), (hC1.2.2.1).fr hF4 (by decide) (by decide) (by decide), (hC1.2.2.2.1).fr hF4 (by decide) (by decide), (hC1.2.2.2.2.1).fr hF4 (by decide) (by decide) (by decide), ⟨by rw [hF4.2.1 _ (by decide)]; exact hN1.1, aGuard_ok hN.2.1, hw3⟩, hU3, (hC1.2.2.2.2.2.2.2.1).fr hF4 (by decide) (by decide), (hC1.2.2.2.2.2.2.2.2.1).fr hF4 (by decide) (by decide) (by decide), (hC1.2.2.2.2.2.2.2.2.2).fr hF4 (by decide) (by decide)⟩, (hG0.tr hF1.1).tr hF4.1⟩

theorem c_X12_plant {E : zE} {σ : zT} {tx : Nat × (Nat → Nat)} {bd : Nat × (Nat → Nat) × (Nat → Nat)} {sk : Nat × (Nat → Nat)} {tw : Nat × (Nat → Nat) × (Nat → Nat)} {xs : List Nat} {ld : Nat × (Nat → Nat)} {pa sh : Nat × (Nat → Nat → Nat)} {ru : Nat × (Nat → Nat) × (Nat → Nat)} {to : Nat × (Nat → Int64)} {m v : Int32} (hC : RefIs σ tx bd sk tw xs ld pa sh ru to) : CalM E 3 yX12_plant cX12_plant 3 (some .int) [.ref (zA E 33 0), .int m, .int v] σ (fun r σ' => r = some (.int (aPlant ld.1 ld.2 m v).1) ∧ RefIs σ' tx bd sk tw xs (ld.1, (aPlant ld.1 ld.2 m v).2) (pshA (aPlant ld.1 ld.2 m v).1 pa ld.2) sh ru to ∧ FrG [33] σ σ') := by
  refine cal_of_go (own := RX12) rfl (by decide +kernel) (Nat.le_of_ble_eq_true rfl) ?_
  refine go_aload_n (i := 0) (pc := 0) dX12_plant_0 rfl rfl ?_
  refine go_iconst (nI 0) (pc := 1) dX12_plant_1 (by decide) ?_
  refine go_puti fp_X12_97 (pc := 2) dX12_plant_2 (by rfl) rfl rfl ?_
  obtain ⟨hC0, hG0, ht0⟩ := hC.t0
  generalize uS σ 33 0 (nI 0) = τ0 at hC0 hG0 ht0 ⊢
  have hN := hC0.2.2.2.2.2.1
  have hU := hC0.2.2.2.2.2.2.1
  refine go_aload_n (i := 0) (pc := 5) dX12_plant_5 rfl rfl ?_
  refine go_callV ml_X12_310 mt_X12_putsBy (pc := 6) dX12_plant_6 (c_X12_putsBy hN.2.2 hU) (by rfl) rfl (by rfl) (by decide) (by decide) rfl rfl (Nat.le_of_ble_eq_true rfl) (fun r σ' hp => ?_)
  obtain ⟨rfl, hU1, hB1, hF1⟩ := hp
  dsimp only [zRet]
  have hC1 : RefIs σ' tx bd sk tw xs ld pa sh ru to := ⟨(hC0.1).fr hF1 (by decide) (by decide), (hC0.2.1).fr hF1 (by decide) (by decide), (hC0.2.2.1).fr hF1 (by decide) (by decide) (by decide), (hC0.2.2.2.1).fr hF1 (by decide) (by decide), (hC0.2.2.2.2.1).fr hF1 (by decide) (by decide) (by decide), (hC0.2.2.2.2.2.1).fr hF1 (by decide) (by decide), hU1, (hC0.2.2.2.2.2.2.2.1).fr hF1 (by decide) (by decide), (hC0.2.2.2.2.2.2.2.2.1).fr hF1 (by decide) (by decide) (by decide), (hC0.2.2.2.2.2.2.2.2.2).fr hF1 (by decide) (by decide)⟩
  have hN1 := hC1.2.2.2.2.2.1
  refine go_aload_n (i := 0) (pc := 9) dX12_plant_9 rfl rfl ?_
  refine go_aload_n (i := 0) (pc := 10) dX12_plant_10 rfl rfl ?_
  refine go_iload_n (i := 1) (pc := 11) dX12_plant_11 rfl rfl ?_
  refine go_iload_n (i := 2) (pc := 12) dX12_plant_12 rfl rfl ?_
  refine go_callV ml_X12_322 mt_X12_plants (pc := 13) dX12_plant_13 (c_X12_plants hN1.1 hN1.2.2 hN1.2.1) (by rfl) rfl (by rfl) (by decide) (by decide) rfl rfl (Nat.le_of_ble_eq_true rfl) (fun r σ' hp => ?_)
  obtain ⟨rfl, hw2, hF2⟩ := hp
  dsimp only [zRet]
  have hU2 := hU1.fr hF2 (by decide) (by decide)
  have hB2 : ∀ k, k < 29 → σ'.2.1 33 15 (29 * pa.1 + k) = nI (ld.2 k) := fun k hk => by rw [hF2.2.2.1 15 (by decide)]; exact hB1 k hk
  refine go_callV ml_X12_316 mt_X12_counts (pc := 16) dX12_plant_16 (c_X12_counts hU2 hB2 hN.2.1) (by rfl) rfl (by rfl) (by decide) (by decide) rfl rfl (Nat.le_of_ble_eq_true rfl) (fun r σ' hp => ?_)
  obtain ⟨rfl, hU3, hF3⟩ := hp
  dsimp only [zRet]
  have hF4 := (hF2.mono (fs2 := [29]) (js2 := [7, 15]) (by simp) (by simp)).tr (hF3.mono (by simp) (by simp))
  have hw3 := hw2.fr hF3 (by decide)
  refine go_ireturn (pc := 19) dX12_plant_19 rfl ?_
  exact ⟨rfl, ⟨(hC1.1).fr hF4 (by decide) (by decide), (hC1.2.1).fr hF4 (by decide) (by decide), (hC1.2.2.1).fr hF4 (by decide) (by decide) (by decide), (hC1.2.2.2.1).fr hF4 (by decide) (by decide), (hC1.2.2.2.2.1).fr hF4 (by decide) (by decide) (by decide), ⟨by rw [hF4.2.1 _ (by decide)]; exact hN1.1, aPlant_ok hN.2.1, hw3⟩, hU3, (hC1.2.2.2.2.2.2.2.1).fr hF4 (by decide) (by decide), (hC1.2.2.2.2.2.2.2.2.1).fr hF4 (by decide) (by decide) (by decide), (hC1.2.2.2.2.2.2.2.2.2).fr hF4 (by decide) (by decide)⟩, (hG0.tr hF1.1).tr hF4.1⟩

theorem c_X12_gate {E : zE} {σ : zT} {tx : Nat × (Nat → Nat)} {bd : Nat × (Nat → Nat) × (Nat → Nat)} {sk : Nat × (Nat → Nat)} {tw : Nat × (Nat → Nat) × (Nat → Nat)} {xs : List Nat} {ld : Nat × (Nat → Nat)} {pa sh : Nat × (Nat → Nat → Nat)} {ru : Nat × (Nat → Nat) × (Nat → Nat)} {to : Nat × (Nat → Int64)} {m : Int32} (hC : RefIs σ tx bd sk tw xs ld pa sh ru to) : CalM E 3 yX12_gate cX12_gate 2 (some .int) [.ref (zA E 33 0), .int m] σ (fun r σ' => r = some (.int (aGate ld.1 ld.2 m).1) ∧ RefIs σ' tx bd sk tw xs (ld.1, (aGate ld.1 ld.2 m).2) (pshA (aGate ld.1 ld.2 m).1 pa ld.2) sh ru to ∧ FrG [33] σ σ') := by
  refine cal_of_go (own := RX12) rfl (by decide +kernel) (Nat.le_of_ble_eq_true rfl) ?_
  refine go_aload_n (i := 0) (pc := 0) dX12_gate_0 rfl rfl ?_
  refine go_iconst (nI 0) (pc := 1) dX12_gate_1 (by decide) ?_
  refine go_puti fp_X12_97 (pc := 2) dX12_gate_2 (by rfl) rfl rfl ?_
  obtain ⟨hC0, hG0, ht0⟩ := hC.t0
  generalize uS σ 33 0 (nI 0) = τ0 at hC0 hG0 ht0 ⊢
  have hN := hC0.2.2.2.2.2.1
  have hU := hC0.2.2.2.2.2.2.1
  refine go_aload_n (i := 0) (pc := 5) dX12_gate_5 rfl rfl ?_
  refine go_callV ml_X12_310 mt_X12_putsBy (pc := 6) dX12_gate_6 (c_X12_putsBy hN.2.2 hU) (by rfl) rfl (by rfl) (by decide) (by decide) rfl rfl (Nat.le_of_ble_eq_true rfl) (fun r σ' hp => ?_)
  obtain ⟨rfl, hU1, hB1, hF1⟩ := hp
  dsimp only [zRet]
  have hC1 : RefIs σ' tx bd sk tw xs ld pa sh ru to := ⟨(hC0.1).fr hF1 (by decide) (by decide), (hC0.2.1).fr hF1 (by decide) (by decide), (hC0.2.2.1).fr hF1 (by decide) (by decide) (by decide), (hC0.2.2.2.1).fr hF1 (by decide) (by decide), (hC0.2.2.2.2.1).fr hF1 (by decide) (by decide) (by decide), (hC0.2.2.2.2.2.1).fr hF1 (by decide) (by decide), hU1, (hC0.2.2.2.2.2.2.2.1).fr hF1 (by decide) (by decide), (hC0.2.2.2.2.2.2.2.2.1).fr hF1 (by decide) (by decide) (by decide), (hC0.2.2.2.2.2.2.2.2.2).fr hF1 (by decide) (by decide)⟩
  have hN1 := hC1.2.2.2.2.2.1
  refine go_aload_n (i := 0) (pc := 9) dX12_gate_9 rfl rfl ?_
  refine go_aload_n (i := 0) (pc := 10) dX12_gate_10 rfl rfl ?_
  refine go_iload_n (i := 1) (pc := 11) dX12_gate_11 rfl rfl ?_
  refine go_callV ml_X12_325 mt_X12_gates (pc := 12) dX12_gate_12 (c_X12_gates hN1.1 hN1.2.2 hN1.2.1) (by rfl) rfl (by rfl) (by decide) (by decide) rfl rfl (Nat.le_of_ble_eq_true rfl) (fun r σ' hp => ?_)
  obtain ⟨rfl, hw2, hF2⟩ := hp
  dsimp only [zRet]
  have hU2 := hU1.fr hF2 (by decide) (by decide)
  have hB2 : ∀ k, k < 29 → σ'.2.1 33 15 (29 * pa.1 + k) = nI (ld.2 k) := fun k hk => by rw [hF2.2.2.1 15 (by decide)]; exact hB1 k hk
  refine go_callV ml_X12_316 mt_X12_counts (pc := 15) dX12_gate_15 (c_X12_counts hU2 hB2 hN.2.1) (by rfl) rfl (by rfl) (by decide) (by decide) rfl rfl (Nat.le_of_ble_eq_true rfl) (fun r σ' hp => ?_)
  obtain ⟨rfl, hU3, hF3⟩ := hp
  dsimp only [zRet]
  have hF4 := (hF2.mono (fs2 := [29]) (js2 := [7, 15]) (by simp) (by simp)).tr (hF3.mono (by simp) (by simp))
  have hw3 := hw2.fr hF3 (by decide)
  refine go_ireturn (pc := 18) dX12_gate_18 rfl ?_
  exact ⟨rfl, ⟨(hC1.1).fr hF4 (by decide) (by decide), (hC1.2.1).fr hF4 (by decide) (by decide), (hC1.2.2.1).fr hF4 (by decide) (by decide) (by decide), (hC1.2.2.2.1).fr hF4 (by decide) (by decide), (hC1.2.2.2.2.1).fr hF4 (by decide) (by decide) (by decide), ⟨by rw [hF4.2.1 _ (by decide)]; exact hN1.1, aGate_ok hN.2.1, hw3⟩, hU3, (hC1.2.2.2.2.2.2.2.1).fr hF4 (by decide) (by decide), (hC1.2.2.2.2.2.2.2.2.1).fr hF4 (by decide) (by decide) (by decide), (hC1.2.2.2.2.2.2.2.2.2).fr hF4 (by decide) (by decide)⟩, (hG0.tr hF1.1).tr hF4.1⟩

theorem c_X12_undo {E : zE} {σ : zT} {tx : Nat × (Nat → Nat)} {bd : Nat × (Nat → Nat) × (Nat → Nat)} {sk : Nat × (Nat → Nat)} {tw : Nat × (Nat → Nat) × (Nat → Nat)} {xs : List Nat} {ld : Nat × (Nat → Nat)} {pa sh : Nat × (Nat → Nat → Nat)} {ru : Nat × (Nat → Nat) × (Nat → Nat)} {to : Nat × (Nat → Int64)} (hC : RefIs σ tx bd sk tw xs ld pa sh ru to) : CalM E 1 yX12_undo cX12_undo 2 (some .int) [.ref (zA E 33 0)] σ (fun r σ' => r = some (.int (if 0 < pa.1 then nI (pa.1 - 1) else -1)) ∧ RefIs σ' tx bd sk tw xs (if 0 < pa.1 then (ld.1, pa.2 (pa.1 - 1)) else ld) (if 0 < pa.1 then (pa.1 - 1, pa.2) else pa) sh ru to ∧ FrG [33] σ σ') := by
  refine cal_of_go (own := RX12) rfl (by decide +kernel) (Nat.le_of_ble_eq_true rfl) ?_
  have hU := hC.2.2.2.2.2.2.1
  have hN := hC.2.2.2.2.2.1
  have h15 := hU.1
  have loop : 0 < pa.1 → ∀ (i : Nat) (τ : zT), i ≤ 29 → (∀ q, q < i → τ.2.1 33 7 q = nI (pa.2 (pa.1 - 1) q)) → τ.1 33 29 = nI (pa.1 - 1) → Fr9 [0, 29] [7] σ τ → GoM E 1 RX12 cX12_undo 2 (some .int) (fun r σ' => r = some (.int (if 0 < pa.1 then nI (pa.1 - 1) else -1)) ∧ RefIs σ' tx bd sk tw xs (if 0 < pa.1 then (ld.1, pa.2 (pa.1 - 1)) else ld) (if 0 < pa.1 then (pa.1 - 1, pa.2) else pa) sh ru to ∧ FrG [33] σ σ') τ 26 [(0, .ref (zA E 33 0)), (1, .int (nI i))] [] := by
    intro h0 i
    induction hz : 29 - i using Nat.strongRecOn generalizing i with
    | ind z ih =>
      intro τ hi hO hu9 hF
      have hsl := hU.2.2 (pa.1 - 1) (by omega)
      refine go_iload_n (i := 1) (pc := 26) dX12_undo_26 rfl rfl ?_
      refine go_bipush (nI 29) (pc := 27) dX12_undo_27 (by decide) ?_
      refine go_icmp_ge 58 (pc := 29) dX12_undo_29 (by decide) (fun h29 => ?_) (fun h29 => ?_)
      · first | rw [nI_leI (by omega) (by omega)] at h29 | rw [zi_leN (by omega)] at h29 | rw [zi_Nle (by omega)] at h29 | rw [zi_le] at h29
        have e : i = 29 := by omega
        subst e
        refine go_aload_n (i := 0) (pc := 58) dX12_undo_58 rfl rfl ?_
        refine go_geti fl_X12_181 (pc := 59) dX12_undo_59 (by rfl) ?_
        rw [hu9]
        refine go_ireturn (pc := 62) dX12_undo_62 rfl ?_
        rw [if_pos h0, if_pos h0, if_pos h0]
        exact ⟨rfl, ⟨(hC.1).fr hF (by decide) (by decide), (hC.2.1).fr hF (by decide) (by decide), (hC.2.2.1).fr hF (by decide) (by decide) (by decide), (hC.2.2.2.1).fr hF (by decide) (by decide), (hC.2.2.2.2.1).fr hF (by decide) (by decide) (by decide), ⟨by rw [hF.2.1 _ (by decide)]; exact hN.1, hsl.1, hO⟩, ⟨by dsimp only; omega, hu9, fun q hq => ⟨(hU.2.2 q (by dsimp only at hq; omega)).1, fun k hk => by rw [hF.2.2.1 15 (by decide)]; exact (hU.2.2 q (by dsimp only at hq; omega)).2 k hk⟩⟩, (hC.2.2.2.2.2.2.2.1).fr hF (by decide) (by decide), (hC.2.2.2.2.2.2.2.2.1).fr hF (by decide) (by decide) (by decide), (hC.2.2.2.2.2.2.2.2.2).fr hF (by decide) (by decide)⟩, hF.1⟩
      · first | rw [nI_leI (by omega) (by omega)] at h29 | rw [zi_leN (by omega)] at h29 | rw [zi_Nle (by omega)] at h29 | rw [zi_le] at h29
        refine go_aload_n (i := 0) (pc := 32) dX12_undo_32 rfl rfl ?_
        refine go_getr2 fl_X12_36 (pc := 33) dX12_undo_33 (by rfl) (by rfl) (by rfl) ?_
        refine go_iload_n (i := 1) (pc := 36) dX12_undo_36 rfl rfl ?_
        refine go_aload_n (i := 0) (pc := 37) dX12_undo_37 rfl rfl ?_
        refine go_getr2 fl_X12_60 (pc := 38) dX12_undo_38 (by rfl) (by rfl) (by rfl) ?_
        refine go_bipush (nI 29) (pc := 41) dX12_undo_41 (by decide) ?_
        refine go_aload_n (i := 0) (pc := 43) dX12_undo_43 rfl rfl ?_
        refine go_geti fl_X12_181 (pc := 44) dX12_undo_44 (by rfl) ?_
        rw [hu9]
        first | with_reducible refine go_imulN (pc := 47) dX12_undo_47 ?_ | refine go_imul (pc := 47) dX12_undo_47 ?_
        refine go_iload_n (i := 1) (pc := 48) dX12_undo_48 rfl rfl ?_
        first | with_reducible refine go_iaddN (pc := 49) dX12_undo_49 ?_ | refine go_iadd (pc := 49) dX12_undo_49 ?_
        refine go_iaload _ (pc := 50) dX12_undo_50 (by first | rfl | (apply zM_ar <;> assumption)) (by first | rfl | (apply zM_jn <;> assumption)) rfl (by first | assumption | omega) ?_
        rw [hF.2.2.1 15 (by decide), hsl.2 i (by omega)]
        refine go_iastore _ (pc := 51) dX12_undo_51 (by first | rfl | (apply zM_ar <;> assumption)) (by first | rfl | (apply zM_jn <;> assumption)) rfl (by first | assumption | omega) ?_
        refine go_iincN (pc := 52) dX12_undo_52 rfl (by decide) ?_
        refine go_goto 26 (pc := 55) dX12_undo_55 (by decide) ?_
        exact ih (29 - (i + 1)) (by omega) (i + 1) rfl _ (by omega) (fun q hq => by rw [uA_s, upd_at]; split; (rename_i e; rw [e]); exact hO q (by omega)) hu9 (hF.uA (by simp))
  refine go_aload_n (i := 0) (pc := 0) dX12_undo_0 rfl rfl ?_
  refine go_iconst (nI 0) (pc := 1) dX12_undo_1 (by decide) ?_
  refine go_puti fp_X12_97 (pc := 2) dX12_undo_2 (by rfl) rfl rfl ?_
  have hF0 : Fr9 [0, 29] [7] σ (uS σ 33 0 (nI 0)) := Fr9.rf.uS (by simp)
  have e29 : (uS σ 33 0 (nI 0)).1 33 29 = nI pa.1 := hU.2.1
  refine go_aload_n (i := 0) (pc := 5) dX12_undo_5 rfl rfl ?_
  refine go_geti fl_X12_181 (pc := 6) dX12_undo_6 (by rfl) ?_
  rw [e29]
  refine go_if_ne 14 (pc := 9) dX12_undo_9 (by decide) (fun h9 => ?_) (fun h9 => ?_)
  · first | rw [zb_0d] at h9 | rw [zn_eq0 (by omega)] at h9 | rw [zi_eq0] at h9
    refine go_aload_n (i := 0) (pc := 14) dX12_undo_14 rfl rfl ?_
    refine go_dup (pc := 15) dX12_undo_15 rfl ?_
    refine go_geti fl_X12_181 (pc := 16) dX12_undo_16 (by rfl) ?_
    rw [e29]
    refine go_iconst (nI 1) (pc := 19) dX12_undo_19 (by decide) ?_
    first | with_reducible refine go_isubN (pc := 20) dX12_undo_20 (by omega) ?_ | refine go_isub (pc := 20) dX12_undo_20 ?_
    refine go_puti fp_X12_181 (pc := 21) dX12_undo_21 (by rfl) rfl rfl ?_
    refine go_iconst (nI 0) (pc := 24) dX12_undo_24 (by decide) ?_
    refine go_istore_n (i := 1) (pc := 25) dX12_undo_25 rfl (by decide) ?_
    exact loop (by omega) 0 _ (by omega) (fun q hq => absurd hq (by omega)) (uS_s _ _ _ _) (hF0.uS (by simp))
  · first | rw [zb_0d] at h9 | rw [zn_eq0 (by omega)] at h9 | rw [zi_eq0] at h9
    refine go_iconst (-1) (pc := 12) dX12_undo_12 (by decide) ?_
    refine go_ireturn (pc := 13) dX12_undo_13 rfl ?_
    rw [if_neg (by omega), if_neg (by omega), if_neg (by omega)]
    exact ⟨rfl, hC.t0.1, hF0.1⟩

theorem c_X12_weeks {E : zE} {σ : zT} {tx : Nat × (Nat → Nat)} {bd : Nat × (Nat → Nat) × (Nat → Nat)} {sk : Nat × (Nat → Nat)} {tw : Nat × (Nat → Nat) × (Nat → Nat)} {xs : List Nat} {ld : Nat × (Nat → Nat)} {pa sh : Nat × (Nat → Nat → Nat)} {ru : Nat × (Nat → Nat) × (Nat → Nat)} {to : Nat × (Nat → Int64)} {n : Int32} (hC : RefIs σ tx bd sk tw xs ld pa sh ru to) (hro : Roomy ld.2) : CalM E 10 yX12_weeks cX12_weeks 4 (some .int) [.ref (zA E 33 0), .int n] σ (fun r σ' => r = some (.int (if in0 n 60 then nI (sWeeks bd sk xs ld n.toInt.toNat).2.2.1 else -1)) ∧ RefIs σ' tx bd sk tw xs (if in0 n 60 then (ld.1, (sWeeks bd sk xs ld n.toInt.toNat).2.2.2) else ld) (if in0 n 60 then (min (pa.1 + 1) 15, pushH pa.2 pa.1 ld.2) else pa) sh ru (if in0 n 60 then (2, ln2 (lN (sWeeks bd sk xs ld n.toInt.toNat).1) (lN (hedSum ld.1 (sWeeks bd sk xs ld n.toInt.toNat).2.2.2))) else to) ∧ FrG [33] σ σ') := by
  refine cal_of_go (own := RX12) rfl (by decide +kernel) (Nat.le_of_ble_eq_true rfl) ?_
  refine go_aload_n (i := 0) (pc := 0) dX12_weeks_0 rfl rfl ?_
  refine go_iconst (nI 0) (pc := 1) dX12_weeks_1 (by decide) ?_
  refine go_puti fp_X12_97 (pc := 2) dX12_weeks_2 (by rfl) rfl rfl ?_
  obtain ⟨hC0, hG0, ht0⟩ := hC.t0
  generalize uS σ 33 0 (nI 0) = τ0 at hC0 hG0 ht0 ⊢
  have hN := hC0.2.2.2.2.2.1
  have hU := hC0.2.2.2.2.2.2.1
  refine go_iload_n (i := 1) (pc := 5) dX12_weeks_5 rfl rfl ?_
  refine go_i2l (pc := 6) dX12_weeks_6 ?_
  refine go_lconst (lN 0) (pc := 7) dX12_weeks_7 (by decide) ?_
  refine go_ldc2 (60) kc_X12_328 (pc := 8) dX12_weeks_8 ?_
  refine go_callS ml_X12_107 mt_X12_in (pc := 11) dX12_weeks_11 (c_in (lo := 0) (hi := 60) (by decide) (by decide)) (by decide) (by decide) rfl rfl (Nat.le_of_ble_eq_true rfl) (fun r σ' hp => ?_)
  obtain ⟨rfl, hσ⟩ := hp
  rw [hσ]
  clear hσ σ'
  dsimp only [zRet]
  refine go_if_ne 19 (pc := 14) dX12_weeks_14 (by decide) (fun h14 => ?_) (fun h14 => ?_)
  · first | rw [zb_0d] at h14 | rw [zn_eq0 (by omega)] at h14 | rw [zi_eq0] at h14
    rw [if_pos (by omega), if_pos (by omega), if_pos (by omega), if_pos (by omega)]
    have hn60 : n.toInt ≤ 60 := by omega
    have en1 := nI_of' (x := n) (by omega)
    generalize hqn1 : n.toInt.toNat = n1 at en1 ⊢
    subst en1
    obtain ⟨a1, a2, a3, a4, a5, a6, a7⟩ := wks_ok (hC0.env.vok hN.2.1) hN.2.1 n1 (by omega) (by omega)
    have h108 := hedSum_le a1
    unfold sWeeks
    refine go_aload_n (i := 0) (pc := 19) dX12_weeks_19 rfl rfl ?_
    refine go_callV ml_X12_310 mt_X12_putsBy (pc := 20) dX12_weeks_20 (c_X12_putsBy hN.2.2 hU) (by rfl) rfl (by rfl) (by decide) (by decide) rfl rfl (Nat.le_of_ble_eq_true rfl) (fun r σ' hp => ?_)
    obtain ⟨rfl, hU1, hB1, hF1⟩ := hp
    dsimp only [zRet]
    have hC1 : RefIs σ' tx bd sk tw xs ld pa sh ru to := ⟨(hC0.1).fr hF1 (by decide) (by decide), (hC0.2.1).fr hF1 (by decide) (by decide), (hC0.2.2.1).fr hF1 (by decide) (by decide) (by decide), (hC0.2.2.2.1).fr hF1 (by decide) (by decide), (hC0.2.2.2.2.1).fr hF1 (by decide) (by decide) (by decide), (hC0.2.2.2.2.2.1).fr hF1 (by decide) (by decide), hU1, (hC0.2.2.2.2.2.2.2.1).fr hF1 (by decide) (by decide), (hC0.2.2.2.2.2.2.2.2.1).fr hF1 (by decide) (by decide) (by decide), (hC0.2.2.2.2.2.2.2.2.2).fr hF1 (by decide) (by decide)⟩
    have hN1 := hC1.2.2.2.2.2.1
    have hE1 := hC1.env
    have hG1 := hG0.tr hF1.1
    clear hF1
    generalize σ' = τ1 at hU1 hB1 hC1 hN1 hE1 hG1 ⊢
    refine go_aload_n (i := 0) (pc := 23) dX12_weeks_23 rfl rfl ?_
    refine go_getr2 fl_X12_36 (pc := 24) dX12_weeks_24 (by rfl) (by rfl) (by rfl) ?_
    refine go_bipush (nI 28) (pc := 27) dX12_weeks_27 (by decide) ?_
    refine go_iaload _ (pc := 29) dX12_weeks_29 (by first | rfl | (apply zM_ar <;> assumption)) (by first | rfl | (apply zM_jn <;> assumption)) rfl (by first | assumption | omega) ?_
    rw [hN1.2.2 28 (by decide)]
    refine go_istore_n (i := 2) (pc := 30) dX12_weeks_30 rfl (by decide) ?_
    refine go_aload_n (i := 0) (pc := 31) dX12_weeks_31 rfl rfl ?_
    refine go_aload_n (i := 0) (pc := 32) dX12_weeks_32 rfl rfl ?_
    refine go_getr2 fl_X12_36 (pc := 33) dX12_weeks_33 (by rfl) (by rfl) (by rfl) ?_
    refine go_iload_n (i := 1) (pc := 36) dX12_weeks_36 rfl rfl ?_
    refine go_callV ml_X12_330 mt_X12_goesOn (pc := 37) dX12_weeks_37 (c_X12_goesOn (V := vOf bd sk xs ld.1) (j := 7) hE1 hN1.2.2 hN1.2.1 rfl (by omega) (by omega)) (by rfl) rfl (by rfl) (by decide) (by decide) rfl rfl (Nat.le_of_ble_eq_true rfl) (fun r σ' hp => ?_)
    obtain ⟨rfl, hw2, hF2⟩ := hp
    dsimp only [zRet]
    refine go_istore_n (i := 3) (pc := 40) dX12_weeks_40 rfl (by decide) ?_
    refine go_aload_n (i := 0) (pc := 41) dX12_weeks_41 rfl rfl ?_
    refine go_iconst (nI 0) (pc := 42) dX12_weeks_42 (by decide) ?_
    refine go_puti fp_X12_104 (pc := 43) dX12_weeks_43 (by rfl) rfl rfl ?_
    have hF3 : Fr9 [1, 27, 28] [1, 7, 13, 14, 16] τ1 (uS σ' 33 1 (nI 0)) := (hF2.mono (by simp) (by simp)).uS (by simp)
    have hz1 : (uS σ' 33 1 (nI 0)).1 33 1 = nI 0 := uS_s _ _ _ _
    have hw3 : RwIs (uS σ' 33 1 (nI 0)) 7 _ := hw2
    generalize uS σ' 33 1 (nI 0) = τ3 at hF3 hz1 hw3 ⊢
    clear hF2 hw2 σ'
    refine go_aload_n (i := 0) (pc := 46) dX12_weeks_46 rfl rfl ?_
    refine go_iload_n (i := 3) (pc := 47) dX12_weeks_47 rfl rfl ?_
    refine go_i2l (pc := 48) dX12_weeks_48 ?_
    rw [nI_l (by omega)]
    refine go_callV ml_X12_333 mt_X12_enters (pc := 49) dX12_weeks_49 (c_tell1 hz1) (by rfl) rfl (by rfl) (by decide) (by decide) rfl rfl (Nat.le_of_ble_eq_true rfl) (fun r σ' hp => ?_)
    obtain ⟨rfl, hT4, hF4⟩ := hp
    dsimp only [zRet]
    have hw4 := hw3.fr hF4 (by decide)
    have h34 : σ'.1 33 3 = nI ld.1 := by rw [hF4.2.1 _ (by decide), hF3.2.1 _ (by decide)]; exact hN1.1
    have hF34 := hF3.tr (hF4.mono (by simp) (by simp))
    clear hF4 hF3
    generalize σ' = τ4 at hT4 hw4 h34 hF34 ⊢
    refine go_aload_n (i := 0) (pc := 52) dX12_weeks_52 rfl rfl ?_
    refine go_aload_n (i := 0) (pc := 53) dX12_weeks_53 rfl rfl ?_
    refine go_aload_n (i := 0) (pc := 54) dX12_weeks_54 rfl rfl ?_
    refine go_getr2 fl_X12_36 (pc := 55) dX12_weeks_55 (by rfl) (by rfl) (by rfl) ?_
    refine go_callV ml_X12_337 mt_X12_allHedge (pc := 58) dX12_weeks_58 (c_X12_allHedge (j := 7) rfl hw4 a1 h34) (by rfl) rfl (by rfl) (by decide) (by decide) rfl rfl (Nat.le_of_ble_eq_true rfl) (fun r σ' hp => ?_)
    obtain ⟨rfl, hσ⟩ := hp
    rw [hσ]
    clear hσ σ'
    dsimp only [zRet]
    refine go_i2l (pc := 61) dX12_weeks_61 ?_
    rw [nI_l (by omega)]
    refine go_callV ml_X12_333 mt_X12_enters (pc := 62) dX12_weeks_62 (c_tell2 hT4) (by rfl) rfl (by rfl) (by decide) (by decide) rfl rfl (Nat.le_of_ble_eq_true rfl) (fun r σ' hp => ?_)
    obtain ⟨rfl, hT5, hF5⟩ := hp
    dsimp only [zRet]
    have hw5 := hw4.fr hF5 (by decide)
    have hF45 := hF34.tr (hF5.mono (by simp) (by simp))
    have hU5 := hU1.fr hF45 (by decide) (by decide)
    have hB5 : ∀ k, k < 29 → σ'.2.1 33 15 (29 * pa.1 + k) = nI (ld.2 k) := fun k hk => by rw [hF45.2.2.1 15 (by decide)]; exact hB1 k hk
    clear hF5
    generalize σ' = τ5 at hT5 hw5 hF45 hU5 hB5 ⊢
    refine go_aload_n (i := 0) (pc := 65) dX12_weeks_65 rfl rfl ?_
    refine go_aload_n (i := 0) (pc := 66) dX12_weeks_66 rfl rfl ?_
    refine go_getr2 fl_X12_36 (pc := 67) dX12_weeks_67 (by rfl) (by rfl) (by rfl) ?_
    refine go_bipush (nI 28) (pc := 70) dX12_weeks_70 (by decide) ?_
    refine go_iaload _ (pc := 72) dX12_weeks_72 (by first | rfl | (apply zM_ar <;> assumption)) (by first | rfl | (apply zM_jn <;> assumption)) rfl (by first | assumption | omega) ?_
    rw [hw5 28 (by decide), a3]
    refine go_iload_n (i := 2) (pc := 73) dX12_weeks_73 rfl rfl ?_
    first | with_reducible refine go_isubN (pc := 74) dX12_weeks_74 (by omega) ?_ | refine go_isub (pc := 74) dX12_weeks_74 ?_
    rw [Nat.add_sub_cancel_left]
    refine go_callV ml_X12_292 mt_X12_adds (pc := 75) dX12_weeks_75 (c_X12_adds hU5 hB5 hN.2.1) (by rfl) rfl (by rfl) (by decide) (by decide) rfl rfl (Nat.le_of_ble_eq_true rfl) (fun r σ' hp => ?_)
    obtain ⟨rfl, hU6, hF6⟩ := hp
    dsimp only [zRet]
    have hF7 := (hF45.mono (fs2 := [1, 27, 28, 29]) (js2 := [1, 7, 13, 14, 16, 15]) (by simp) (by simp)).tr (hF6.mono (by simp) (by simp))
    have hw6 := hw5.fr hF6 (by decide)
    refine go_ireturn (pc := 78) dX12_weeks_78 rfl ?_
    exact ⟨rfl, ⟨(hC1.1).fr hF7 (by decide) (by decide), (hC1.2.1).fr hF7 (by decide) (by decide), (hC1.2.2.1).fr hF7 (by decide) (by decide) (by decide), (hC1.2.2.2.1).fr hF7 (by decide) (by decide), (hC1.2.2.2.2.1).fr hF7 (by decide) (by decide) (by decide), ⟨by rw [hF7.2.1 _ (by decide)]; exact hN1.1, a1, hw6⟩, hU6, (hC1.2.2.2.2.2.2.2.1).fr hF7 (by decide) (by decide), (hC1.2.2.2.2.2.2.2.2.1).fr hF7 (by decide) (by decide) (by decide), (hT5.fr hF6 (by decide) (by decide))⟩, hG1.tr hF7.1⟩
  · first | rw [zb_0d] at h14 | rw [zn_eq0 (by omega)] at h14 | rw [zi_eq0] at h14
    refine go_iconst (-1) (pc := 17) dX12_weeks_17 (by decide) ?_
    refine go_ireturn (pc := 18) dX12_weeks_18 rfl ?_
    rw [if_neg (by omega), if_neg (by omega), if_neg (by omega), if_neg (by omega)]
    exact ⟨rfl, hC0, hG0⟩

