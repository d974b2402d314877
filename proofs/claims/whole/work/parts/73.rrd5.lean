def itR (one : Nat → Bool × Nat × Nat × Nat) (f : Nat → Nat) (L lim nc : Nat) : Bool × Nat × Nat := if L = 0 then (true, 0, 0) else mR one f lim (8 - nc) 0 0
theorem itR_b {one : Nat → Bool × Nat × Nat × Nat} {f : Nat → Nat} {L lim nc : Nat} (hone : ∀ p, p ≤ lim → (one p).2.1 ≤ lim) : (itR one f L lim nc).2.1 ≤ lim ∧ (itR one f L lim nc).2.2 ≤ 8 - nc := by
  unfold itR
  split
  · exact ⟨Nat.zero_le _, Nat.zero_le _⟩
  · obtain ⟨a, -, -, d⟩ := mR_b (f := f) hone (8 - nc) 0 0 (Nat.zero_le _)
    exact ⟨a, by omega⟩
theorem car_it {f : Nat → Nat} {nc L : Nat} (hnc : nc ≤ 8) : (match carF nc L f with | none => nI 0 | some q => mF q) = faO L 23 (itR (cLn f (min L 23)) f L (min L 23) nc).1 (itR (cLn f (min L 23)) f L (min L 23) nc).2.1 (min L 23) ∧ (carF nc L f = none → (L + 1) / 3 = (itR (cLn f (min L 23)) f L (min L 23) nc).2.2) ∧ (carF nc L f = none ↔ (L ≤ 23 ∧ (itR (cLn f (min L 23)) f L (min L 23) nc).1 = true ∧ (itR (cLn f (min L 23)) f L (min L 23) nc).2.1 = min L 23)) := by
  unfold itR
  by_cases h : L = 0
  · rw [if_pos h]
    subst h
    have e : carF nc 0 f = none := by unfold carF; rw [if_neg (fun q => by have := rlU_le (okC nc f) (min 0 23); omega), if_neg (fun q => q.1 rfl)]
    rw [e]
    exact ⟨rfl, fun _ => rfl, ⟨fun _ => ⟨by decide, rfl, rfl⟩, fun _ => rfl⟩⟩
  · rw [if_neg h]
    exact car_mR rfl h (8 - nc) 0 (by omega) (Nat.zero_le _) rfl
theorem mou_it {f : Nat → Nat} {nc L : Nat} : (match (mouF nc L f).1 with | none => nI 0 | some q => mF q) = faO L 47 (itR (mLn f (min L 47)) f L (min L 47) nc).1 (itR (mLn f (min L 47)) f L (min L 47) nc).2.1 (min L 47) ∧ ((mouF nc L f).1 = none → (mouF nc L f).2 = (itR (mLn f (min L 47)) f L (min L 47) nc).2.2) ∧ ((mouF nc L f).1 = none ↔ (L ≤ 47 ∧ (itR (mLn f (min L 47)) f L (min L 47) nc).1 = true ∧ (itR (mLn f (min L 47)) f L (min L 47) nc).2.1 = min L 47)) := by
  unfold itR mouF
  by_cases h : L = 0
  · rw [if_pos h, if_pos h]
    subst h
    exact ⟨rfl, fun _ => rfl, ⟨fun _ => ⟨by decide, rfl, rfl⟩, fun _ => rfl⟩⟩
  · rw [if_neg h, if_neg h]
    exact mou_mR rfl (8 - nc) 0 0 (Nat.zero_le _)

theorem mLn_p {f : Nat → Nat} {lim p : Nat} (h : (mLn f lim p).1 = true) : p ≤ lim := by
  unfold mLn at h
  by_cases h0 : tDig f lim p 2 = 0
  · rw [if_pos h0] at h; cases h
  · have := (tDig_in (f := f) (lim := lim) (m := 2) (a := p) (i := 0) (by omega)).1
    omega
theorem CarIs.cg {σ τ : zT} {n : Nat} {kd ld : Nat → Nat} (h : CarIs σ n kd ld) (h4 : τ.1 33 4 = nI n) (hk : τ.2.1 33 3 = σ.2.1 33 3) (hl : τ.2.1 33 4 = σ.2.1 33 4) : CarIs τ n kd ld := ⟨h.1, h4, fun i hi => by rw [hk, hl]; exact h.2.2 i hi⟩
theorem SortIs.cg {σ τ : zT} {n : Nat} {kd ld : Nat → Nat} (h : SortIs σ n kd ld) (h4 : τ.1 33 5 = nI n) (hk : τ.2.1 33 5 = σ.2.1 33 5) (hl : τ.2.1 33 6 = σ.2.1 33 6) : SortIs τ n kd ld := ⟨h.1, h4, fun i hi => by rw [hk, hl]; exact h.2.2 i hi⟩

set_option maxRecDepth 4000 in
theorem c_X12_carriers {E : zE} {σ : zT} {tx : Nat × (Nat → Nat)} {bd : Nat × (Nat → Nat) × (Nat → Nat)} {sk : Nat × (Nat → Nat)} {tw : Nat × (Nat → Nat) × (Nat → Nat)} {xs : List Nat} {ld : Nat × (Nat → Nat)} {pa sh : Nat × (Nat → Nat → Nat)} {ru : Nat × (Nat → Nat) × (Nat → Nat)} {to : Nat × (Nat → Int64)} (hC : RefIs σ tx bd sk tw xs ld pa sh ru to) : CalM E 3 yX12_carriers cX12_carriers 6 (some .int) [.ref (zA E 33 0)] σ (fun r σ' => r = some (.int (match carF bd.1 tx.1 tx.2 with | none => nI ((tx.1 + 1) / 3) | some q => mF q)) ∧ RefIs σ' (0, tx.2) (match carF bd.1 tx.1 tx.2 with | none => (bd.1 + (tx.1 + 1) / 3, carK bd.1 bd.2.1 tx.2, carL bd.1 bd.2.2 tx.2) | some _ => bd) sk tw xs ld pa sh ru to ∧ FrG [33] σ σ') := by
  refine cal_of_go (own := RX12) rfl (by decide +kernel) (Nat.le_of_ble_eq_true rfl) ?_
  have hT := hC.2.1
  have hL := hT.2.1
  have hX := hC.2.2.1
  have hx8 := hX.1
  have hone : ∀ p, p ≤ (min tx.1 23) → ((cLn tx.2 (min tx.1 23)) p).2.1 ≤ (min tx.1 23) := fun p hp => cLn_b hp
  obtain ⟨hRb, hRc⟩ := itR_b (f := tx.2) (L := tx.1) (nc := bd.1) hone
  obtain ⟨hres, hcnt, hiff⟩ := car_it (f := tx.2) (L := tx.1) (nc := bd.1) hx8
  have cpy : carF bd.1 tx.1 tx.2 = none → ∀ (i : Nat) (τ : zT), i ≤ (itR (cLn tx.2 (min tx.1 23)) tx.2 tx.1 (min tx.1 23) bd.1).2.2 → τ.1 33 4 = nI (bd.1 + i) → τ.1 33 20 = nI (itR (cLn tx.2 (min tx.1 23)) tx.2 tx.1 (min tx.1 23) bd.1).2.2 → (∀ j, j < (itR (cLn tx.2 (min tx.1 23)) tx.2 tx.1 (min tx.1 23) bd.1).2.2 → ((cLn tx.2 (min tx.1 23)) (gPos (cLn tx.2 (min tx.1 23)) j)).1 = true ∧ τ.2.1 33 10 (2 * j) = nI ((cLn tx.2 (min tx.1 23)) (gPos (cLn tx.2 (min tx.1 23)) j)).2.2.1 ∧ τ.2.1 33 10 (2 * j + 1) = nI ((cLn tx.2 (min tx.1 23)) (gPos (cLn tx.2 (min tx.1 23)) j)).2.2.2) → (∀ j, j < bd.1 + i → τ.2.1 33 3 j = nI ((fun i => if i < bd.1 then bd.2.1 i else ((cLn tx.2 (min tx.1 23)) (gPos (cLn tx.2 (min tx.1 23)) (i - bd.1))).2.2.1) j) ∧ τ.2.1 33 4 j = nI ((fun i => if i < bd.1 then bd.2.2 i else ((cLn tx.2 (min tx.1 23)) (gPos (cLn tx.2 (min tx.1 23)) (i - bd.1))).2.2.2) j)) → TapeIs τ 0 tx.2 → Fr9 [0, 4, 15, 16, 17, 18, 20] [3, 4, 10] σ τ → GoM E 3 RX12 cX12_carriers 6 (some .int) (fun r σ' => r = some (.int (match carF bd.1 tx.1 tx.2 with | none => nI ((tx.1 + 1) / 3) | some q => mF q)) ∧ RefIs σ' (0, tx.2) (match carF bd.1 tx.1 tx.2 with | none => (bd.1 + (tx.1 + 1) / 3, carK bd.1 bd.2.1 tx.2, carL bd.1 bd.2.2 tx.2) | some _ => bd) sk tw xs ld pa sh ru to ∧ FrG [33] σ σ') τ 81 [(0, .ref (zA E 33 0)), (5, .int (nI i))] [] := by
    intro hcl i
    induction hz : (itR (cLn tx.2 (min tx.1 23)) tx.2 tx.1 (min tx.1 23) bd.1).2.2 - i using Nat.strongRecOn generalizing i with
    | ind z ih =>
      intro τ hi h4 h20 hrd hkl hTt hF
      refine go_iload (pc := 81) dX12_carriers_81 rfl ?_
      refine go_aload_n (i := 0) (pc := 83) dX12_carriers_83 rfl rfl ?_
      refine go_geti fl_X12_169 (pc := 84) dX12_carriers_84 (by rfl) ?_
      rw [h20]
      refine go_icmp_ge 144 (pc := 87) dX12_carriers_87 (by decide) (fun h87 => ?_) (fun h87 => ?_)
      · first | rw [nI_leI (by omega) (by omega)] at h87 | rw [zi_leN (by omega)] at h87 | rw [zi_Nle (by omega)] at h87 | rw [zi_le] at h87
        have e : i = (itR (cLn tx.2 (min tx.1 23)) tx.2 tx.1 (min tx.1 23) bd.1).2.2 := by omega
        subst e
        refine go_aload_n (i := 0) (pc := 144) dX12_carriers_144 rfl rfl ?_
        refine go_geti fl_X12_169 (pc := 145) dX12_carriers_145 (by rfl) ?_
        rw [h20]
        refine go_ireturn (pc := 148) dX12_carriers_148 rfl ?_
        have hnew := (show CarIs τ (bd.1 + (itR (cLn tx.2 (min tx.1 23)) tx.2 tx.1 (min tx.1 23) bd.1).2.2) (fun i => if i < bd.1 then bd.2.1 i else ((cLn tx.2 (min tx.1 23)) (gPos (cLn tx.2 (min tx.1 23)) (i - bd.1))).2.2.1) (fun i => if i < bd.1 then bd.2.2 i else ((cLn tx.2 (min tx.1 23)) (gPos (cLn tx.2 (min tx.1 23)) (i - bd.1))).2.2.2) from ⟨by omega, h4, fun j hj => ⟨(hkl j hj).1, (hkl j hj).2, by
          dsimp only
          by_cases e : j < bd.1
          · rw [if_pos e, if_pos e]
            exact (hX.2.2 j e).2.2
          · rw [if_neg e, if_neg e]
            exact (cLn_v (hrd (j - bd.1) (by omega)).1).2.2⟩⟩)
        rw [hcl]
        refine ⟨by rw [hcnt hcl], ?_, hF.1⟩
        dsimp only
        rw [hcnt hcl]
        have hpos : ∀ j, j < (itR (cLn tx.2 (min tx.1 23)) tx.2 tx.1 (min tx.1 23) bd.1).2.2 → gPos (cLn tx.2 (min tx.1 23)) j = 3 * j := fun j hj => gPos_car j (fun q hq => (hrd q (by omega)).1)
        have hnew2 : CarIs τ (bd.1 + (itR (cLn tx.2 (min tx.1 23)) tx.2 tx.1 (min tx.1 23) bd.1).2.2) (carK bd.1 bd.2.1 tx.2) (carL bd.1 bd.2.2 tx.2) := by
          refine ⟨hnew.1, hnew.2.1, fun j hj => ?_⟩
          have h := hnew.2.2 j hj
          dsimp only at h
          unfold carK carL
          by_cases e : j < bd.1
          · rw [if_pos e, if_pos e] at h ⊢; exact h
          · rw [if_neg e, if_neg e] at h ⊢
            have hv := cLn_v (hrd (j - bd.1) (by omega)).1
            rw [hv.1, hv.2.1, hpos _ (by omega)] at h
            exact h
        exact ⟨(hC.1).fr hF (by decide) (by decide), hTt, hnew2, (hC.2.2.2.1).fr hF (by decide) (by decide), (hC.2.2.2.2.1).fr hF (by decide) (by decide) (by decide), (hC.2.2.2.2.2.1).fr hF (by decide) (by decide), (hC.2.2.2.2.2.2.1).fr hF (by decide) (by decide), (hC.2.2.2.2.2.2.2.1).fr hF (by decide) (by decide), (hC.2.2.2.2.2.2.2.2.1).fr hF (by decide) (by decide) (by decide), (hC.2.2.2.2.2.2.2.2.2).fr hF (by decide) (by decide)⟩
      · first | rw [nI_leI (by omega) (by omega)] at h87 | rw [zi_leN (by omega)] at h87 | rw [zi_Nle (by omega)] at h87 | rw [zi_le] at h87
        refine go_aload_n (i := 0) (pc := 90) dX12_carriers_90 rfl rfl ?_
        refine go_getr2 fl_X12_24 (pc := 91) dX12_carriers_91 (by rfl) (by rfl) (by rfl) ?_
        refine go_aload_n (i := 0) (pc := 94) dX12_carriers_94 rfl rfl ?_
        refine go_geti fl_X12_111 (pc := 95) dX12_carriers_95 (by rfl) ?_
        rw [h4]
        refine go_aload_n (i := 0) (pc := 98) dX12_carriers_98 rfl rfl ?_
        refine go_getr2 fl_X12_45 (pc := 99) dX12_carriers_99 (by rfl) (by rfl) (by rfl) ?_
        refine go_iconst (nI 2) (pc := 102) dX12_carriers_102 (by decide) ?_
        refine go_iload (pc := 103) dX12_carriers_103 rfl ?_
        first | with_reducible refine go_imulN (pc := 105) dX12_carriers_105 ?_ | refine go_imul (pc := 105) dX12_carriers_105 ?_
        refine go_iaload (2 * i) (pc := 106) dX12_carriers_106 rfl rfl rfl (by omega) ?_
        rw [(hrd i (by omega)).2.1]
        refine go_iastore (bd.1 + i) (pc := 107) dX12_carriers_107 rfl rfl rfl (by omega) ?_
        refine go_aload_n (i := 0) (pc := 108) dX12_carriers_108 rfl rfl ?_
        refine go_getr2 fl_X12_27 (pc := 109) dX12_carriers_109 (by rfl) (by rfl) (by rfl) ?_
        refine go_aload_n (i := 0) (pc := 112) dX12_carriers_112 rfl rfl ?_
        refine go_geti fl_X12_111 (pc := 113) dX12_carriers_113 (by rfl) ?_
        rw [show (uA τ 33 3 (upd (τ.2.1 33 3) (bd.1 + i) (nI ((cLn tx.2 (min tx.1 23)) (gPos (cLn tx.2 (min tx.1 23)) i)).2.2.1))).1 33 4 = nI (bd.1 + i) from h4]
        refine go_aload_n (i := 0) (pc := 116) dX12_carriers_116 rfl rfl ?_
        refine go_getr2 fl_X12_45 (pc := 117) dX12_carriers_117 (by rfl) (by rfl) (by rfl) ?_
        refine go_iconst (nI 2) (pc := 120) dX12_carriers_120 (by decide) ?_
        refine go_iload (pc := 121) dX12_carriers_121 rfl ?_
        first | with_reducible refine go_imulN (pc := 123) dX12_carriers_123 ?_ | refine go_imul (pc := 123) dX12_carriers_123 ?_
        refine go_iconst (nI 1) (pc := 124) dX12_carriers_124 (by decide) ?_
        first | with_reducible refine go_iaddN (pc := 125) dX12_carriers_125 ?_ | refine go_iadd (pc := 125) dX12_carriers_125 ?_
        refine go_iaload (2 * i + 1) (pc := 126) dX12_carriers_126 rfl rfl rfl (by omega) ?_
        rw [show (uA τ 33 3 (upd (τ.2.1 33 3) (bd.1 + i) (nI ((cLn tx.2 (min tx.1 23)) (gPos (cLn tx.2 (min tx.1 23)) i)).2.2.1))).2.1 33 10 (2 * i + 1) = nI ((cLn tx.2 (min tx.1 23)) (gPos (cLn tx.2 (min tx.1 23)) i)).2.2.2 from (by rw [uA_2, if_neg (by decide)]; exact (hrd i (by omega)).2.2)]
        refine go_iastore (bd.1 + i) (pc := 127) dX12_carriers_127 rfl rfl rfl (by omega) ?_
        refine go_aload_n (i := 0) (pc := 128) dX12_carriers_128 rfl rfl ?_
        refine go_dup (pc := 129) dX12_carriers_129 rfl ?_
        refine go_geti fl_X12_111 (pc := 130) dX12_carriers_130 (by rfl) ?_
        rw [show (uA (uA τ 33 3 (upd (τ.2.1 33 3) (bd.1 + i) (nI ((cLn tx.2 (min tx.1 23)) (gPos (cLn tx.2 (min tx.1 23)) i)).2.2.1))) 33 4 (upd ((uA τ 33 3 (upd (τ.2.1 33 3) (bd.1 + i) (nI ((cLn tx.2 (min tx.1 23)) (gPos (cLn tx.2 (min tx.1 23)) i)).2.2.1))).2.1 33 4) (bd.1 + i) (nI ((cLn tx.2 (min tx.1 23)) (gPos (cLn tx.2 (min tx.1 23)) i)).2.2.2))).1 33 4 = nI (bd.1 + i) from h4]
        refine go_iconst (nI 1) (pc := 133) dX12_carriers_133 (by decide) ?_
        first | with_reducible refine go_iaddN (pc := 134) dX12_carriers_134 ?_ | refine go_iadd (pc := 134) dX12_carriers_134 ?_
        refine go_puti fp_X12_111 (pc := 135) dX12_carriers_135 (by rfl) rfl rfl ?_
        refine go_iincN (pc := 138) dX12_carriers_138 rfl (by decide) ?_
        refine go_goto 81 (pc := 141) dX12_carriers_141 (by decide) ?_
        refine ih ((itR (cLn tx.2 (min tx.1 23)) tx.2 tx.1 (min tx.1 23) bd.1).2.2 - (i + 1)) (by omega) (i + 1) rfl _ (by omega) (by rw [uS_s]; rfl) ?_ (fun j hj => ?_) (fun j hj => ?_) ?_ (((hF.uA (by simp)).uA (by simp)).uS (by simp))
        · rw [uS_1, if_neg (by decide)]; exact h20
        · rw [uS_2, uA_2, if_neg (by decide), uA_2, if_neg (by decide)]; exact hrd j hj
        · rw [uS_2, uA_2, if_neg (by decide), uA_s, uA_s, uA_2, if_neg (by decide), upd_at, upd_at]
          by_cases e : j = bd.1 + i
          · rw [if_pos e, if_pos e, e]
            dsimp only
            rw [if_neg (by omega), if_neg (by omega), Nat.add_sub_cancel_left]
            exact ⟨rfl, rfl⟩
          · rw [if_neg e, if_neg e]
            exact hkl j (by omega)
        · exact hTt.fr (fs := [4]) (js := [3, 4]) (((Fr9.rf.uA (by simp)).uA (by simp)).uS (by simp)) (by decide) (by decide)
  have fin : ∀ τ, Cur τ tx.2 (itR (cLn tx.2 (min tx.1 23)) tx.2 tx.1 (min tx.1 23) bd.1).2.1 (min tx.1 23) → ((itR (cLn tx.2 (min tx.1 23)) tx.2 tx.1 (min tx.1 23) bd.1).1 = true → τ.1 33 20 = nI (itR (cLn tx.2 (min tx.1 23)) tx.2 tx.1 (min tx.1 23) bd.1).2.2 ∧ (∀ j, j < (itR (cLn tx.2 (min tx.1 23)) tx.2 tx.1 (min tx.1 23) bd.1).2.2 → ((cLn tx.2 (min tx.1 23)) (gPos (cLn tx.2 (min tx.1 23)) j)).1 = true ∧ τ.2.1 33 10 (2 * j) = nI ((cLn tx.2 (min tx.1 23)) (gPos (cLn tx.2 (min tx.1 23)) j)).2.2.1 ∧ τ.2.1 33 10 (2 * j + 1) = nI ((cLn tx.2 (min tx.1 23)) (gPos (cLn tx.2 (min tx.1 23)) j)).2.2.2)) → τ.1 33 4 = nI bd.1 → τ.2.1 33 3 = σ.2.1 33 3 → τ.2.1 33 4 = σ.2.1 33 4 → TapeIs τ 0 tx.2 → Fr9 [0, 4, 15, 16, 17, 18, 20] [3, 4, 10] σ τ → GoM E 3 RX12 cX12_carriers 6 (some .int) (fun r σ' => r = some (.int (match carF bd.1 tx.1 tx.2 with | none => nI ((tx.1 + 1) / 3) | some q => mF q)) ∧ RefIs σ' (0, tx.2) (match carF bd.1 tx.1 tx.2 with | none => (bd.1 + (tx.1 + 1) / 3, carK bd.1 bd.2.1 tx.2, carL bd.1 bd.2.2 tx.2) | some _ => bd) sk tw xs ld pa sh ru to ∧ FrG [33] σ σ') τ 60 [(0, .ref (zA E 33 0)), (1, .int (nI tx.1)), (2, .int (zb (itR (cLn tx.2 (min tx.1 23)) tx.2 tx.1 (min tx.1 23) bd.1).1))] [] := by
    intro τ hK hrd h4 hk hl hTt hF
    have hneg := faO_neg (n := tx.1) (most := 23) (a := (itR (cLn tx.2 (min tx.1 23)) tx.2 tx.1 (min tx.1 23) bd.1).2.1) (lim := (min tx.1 23)) (b := (itR (cLn tx.2 (min tx.1 23)) tx.2 tx.1 (min tx.1 23) bd.1).1) (by omega) (by decide)
    refine go_aload_n (i := 0) (pc := 60) dX12_carriers_60 rfl rfl ?_
    refine go_iload_n (i := 1) (pc := 61) dX12_carriers_61 rfl rfl ?_
    refine go_bipush (nI 23) (pc := 62) dX12_carriers_62 (by decide) ?_
    refine go_iload_n (i := 2) (pc := 64) dX12_carriers_64 rfl rfl ?_
    refine go_callV ml_X12_196 mt_X12_faultOf (pc := 65) dX12_carriers_65 (c_X12_faultOf (b := (itR (cLn tx.2 (min tx.1 23)) tx.2 tx.1 (min tx.1 23) bd.1).1) hK hL (by decide)) (by rfl) rfl (by rfl) (by decide) (by decide) rfl rfl (Nat.le_of_ble_eq_true rfl) (fun r σ' hp => ?_)
    obtain ⟨rfl, hσ⟩ := hp
    rw [hσ]
    clear hσ
    dsimp only [zRet]
    refine go_istore (pc := 68) dX12_carriers_68 (by decide) ?_
    refine go_iload (pc := 70) dX12_carriers_70 rfl ?_
    refine go_if_ge 78 (pc := 72) dX12_carriers_72 (by decide) (fun h72 => ?_) (fun h72 => ?_)
    · rw [zi_ge0] at h72
      have hyes : tx.1 ≤ 23 ∧ (itR (cLn tx.2 (min tx.1 23)) tx.2 tx.1 (min tx.1 23) bd.1).1 = true ∧ (itR (cLn tx.2 (min tx.1 23)) tx.2 tx.1 (min tx.1 23) bd.1).2.1 = (min tx.1 23) := by
        apply Classical.byContradiction
        intro hno
        have := hneg.mpr hno
        omega
      have hcl := hiff.mpr hyes
      obtain ⟨h20, hrows⟩ := hrd hyes.2.1
      refine go_iconst (nI 0) (pc := 78) dX12_carriers_78 (by decide) ?_
      refine go_istore (pc := 79) dX12_carriers_79 (by decide) ?_
      refine go_drop [0, 4] rfl ?_
      refine cpy hcl 0 τ (Nat.zero_le _) h4 h20 hrows (fun j hj => ?_) hTt hF
      dsimp only
      rw [hk, hl, if_pos (by omega), if_pos (by omega)]
      exact ⟨(hX.2.2 j hj).1, (hX.2.2 j hj).2.1⟩
    · rw [zi_ge0] at h72
      have hno : ¬ (tx.1 ≤ 23 ∧ (itR (cLn tx.2 (min tx.1 23)) tx.2 tx.1 (min tx.1 23) bd.1).1 = true ∧ (itR (cLn tx.2 (min tx.1 23)) tx.2 tx.1 (min tx.1 23) bd.1).2.1 = (min tx.1 23)) := hneg.mp (by omega)
      obtain ⟨q, hq⟩ : ∃ q, carF bd.1 tx.1 tx.2 = some q := by
        cases e : carF bd.1 tx.1 tx.2 with
        | none => exact absurd (hiff.mp e) hno
        | some q => exact ⟨q, rfl⟩
      rw [hq] at hres ⊢
      refine go_iload (pc := 75) dX12_carriers_75 rfl ?_
      refine go_ireturn (pc := 77) dX12_carriers_77 rfl ?_
      exact ⟨by rw [← hres], ⟨(hC.1).fr hF (by decide) (by decide), hTt, (hX.cg h4 hk hl), (hC.2.2.2.1).fr hF (by decide) (by decide), (hC.2.2.2.2.1).fr hF (by decide) (by decide) (by decide), (hC.2.2.2.2.2.1).fr hF (by decide) (by decide), (hC.2.2.2.2.2.2.1).fr hF (by decide) (by decide), (hC.2.2.2.2.2.2.2.1).fr hF (by decide) (by decide), (hC.2.2.2.2.2.2.2.2.1).fr hF (by decide) (by decide) (by decide), (hC.2.2.2.2.2.2.2.2.2).fr hF (by decide) (by decide)⟩, hF.1⟩
  have loop : ∀ (k s : Nat) (τ : zT), bd.1 + s + k = 8 → (itR (cLn tx.2 (min tx.1 23)) tx.2 tx.1 (min tx.1 23) bd.1) = mR (cLn tx.2 (min tx.1 23)) tx.2 (min tx.1 23) k s (gPos (cLn tx.2 (min tx.1 23)) s) → Cur τ tx.2 (gPos (cLn tx.2 (min tx.1 23)) s) (min tx.1 23) → τ.1 33 20 = nI s → (∀ j, j < s → ((cLn tx.2 (min tx.1 23)) (gPos (cLn tx.2 (min tx.1 23)) j)).1 = true ∧ τ.2.1 33 10 (2 * j) = nI ((cLn tx.2 (min tx.1 23)) (gPos (cLn tx.2 (min tx.1 23)) j)).2.2.1 ∧ τ.2.1 33 10 (2 * j + 1) = nI ((cLn tx.2 (min tx.1 23)) (gPos (cLn tx.2 (min tx.1 23)) j)).2.2.2) → τ.1 33 4 = nI bd.1 → τ.2.1 33 3 = σ.2.1 33 3 → τ.2.1 33 4 = σ.2.1 33 4 → TapeIs τ 0 tx.2 → Fr9 [0, 4, 15, 16, 17, 18, 20] [3, 4, 10] σ τ → GoM E 3 RX12 cX12_carriers 6 (some .int) (fun r σ' => r = some (.int (match carF bd.1 tx.1 tx.2 with | none => nI ((tx.1 + 1) / 3) | some q => mF q)) ∧ RefIs σ' (0, tx.2) (match carF bd.1 tx.1 tx.2 with | none => (bd.1 + (tx.1 + 1) / 3, carK bd.1 bd.2.1 tx.2, carL bd.1 bd.2.2 tx.2) | some _ => bd) sk tw xs ld pa sh ru to ∧ FrG [33] σ σ') τ 29 [(0, .ref (zA E 33 0)), (1, .int (nI tx.1)), (3, .int (nI 1))] [] := by
    intro k
    induction k with
    | zero =>
      intro s τ hs hR hK h20 hrd h4 hk hl hTt hF
      have hR0 : (itR (cLn tx.2 (min tx.1 23)) tx.2 tx.1 (min tx.1 23) bd.1) = (false, gPos (cLn tx.2 (min tx.1 23)) s, s) := hR
      refine go_iload_n (i := 3) (pc := 29) dX12_carriers_29 rfl rfl ?_
      refine go_if_eq 60 (pc := 30) dX12_carriers_30 (by decide) (fun h30 => ?_) (fun h30 => ?_)
      · exact absurd h30 (by decide)
      · refine go_aload_n (i := 0) (pc := 33) dX12_carriers_33 rfl rfl ?_
        refine go_callV ml_X12_189 mt_X12_readsCarrier (pc := 34) dX12_carriers_34 (c_rcFull hK h4 h20 (by omega)) (by rfl) rfl (by rfl) (by decide) (by decide) rfl rfl (Nat.le_of_ble_eq_true rfl) (fun r σ' hp => ?_)
        obtain ⟨rfl, hσ⟩ := hp
        rw [hσ]
        clear hσ
        dsimp only [zRet]
        refine go_istore_n (i := 2) (pc := 37) dX12_carriers_37 rfl (by decide) ?_
        refine go_iload_n (i := 2) (pc := 38) dX12_carriers_38 rfl rfl ?_
        refine go_if_eq 55 (pc := 39) dX12_carriers_39 (by decide) (fun h39 => ?_) (fun h39 => ?_)
        · refine go_iconst (nI 0) (pc := 55) dX12_carriers_55 (by decide) ?_
          refine go_istore_n (i := 3) (pc := 56) dX12_carriers_56 rfl (by decide) ?_
          refine go_goto 29 (pc := 57) dX12_carriers_57 (by decide) ?_
          refine go_iload_n (i := 3) (pc := 29) dX12_carriers_29 rfl rfl ?_
          refine go_if_eq 60 (pc := 30) dX12_carriers_30 (by decide) (fun h30b => ?_) (fun h30b => absurd rfl h30b)
          refine go_drop [0, 1, 2] rfl ?_
          refine go_at rfl (show _ = [(0, .ref (zA E 33 0)), (1, .int (nI tx.1)), (2, .int (zb (itR (cLn tx.2 (min tx.1 23)) tx.2 tx.1 (min tx.1 23) bd.1).1))] by rw [hR0]; rfl) rfl ?_
          exact fin τ (by rw [hR0]; exact hK) (fun h => by rw [hR0] at h; cases h) h4 hk hl hTt hF
        · exact absurd rfl h39
    | succ k ih =>
      intro s τ hs hR hK h20 hrd h4 hk hl hTt hF
      have hR1 := hR
      rw [mR] at hR1
      have hpl := hK.2.2.1
      have hol := hone _ hpl
      refine go_iload_n (i := 3) (pc := 29) dX12_carriers_29 rfl rfl ?_
      refine go_if_eq 60 (pc := 30) dX12_carriers_30 (by decide) (fun h30 => ?_) (fun h30 => ?_)
      · exact absurd h30 (by decide)
      · refine go_aload_n (i := 0) (pc := 33) dX12_carriers_33 rfl rfl ?_
        refine go_callV ml_X12_189 mt_X12_readsCarrier (pc := 34) dX12_carriers_34 (c_X12_readsCarrier hK h4 h20 (by omega)) (by rfl) rfl (by rfl) (by decide) (by decide) rfl rfl (Nat.le_of_ble_eq_true rfl) (fun r σ' hp => ?_)
        obtain ⟨rfl, hK2, hit, hlo, hFd⟩ := hp
        dsimp only [zRet]
        have hF2 := hF.tr (hFd.mono (by simp) (by simp))
        have hT2 := hTt.fr hFd (by decide) (by decide)
        have h42 : σ'.1 33 4 = nI bd.1 := by rw [hFd.2.1 _ (by decide)]; exact h4
        have hk2 : σ'.2.1 33 3 = σ.2.1 33 3 := by rw [hFd.2.2.1 _ (by decide)]; exact hk
        have hl2 : σ'.2.1 33 4 = σ.2.1 33 4 := by rw [hFd.2.2.1 _ (by decide)]; exact hl
        have hrd2 : ((cLn tx.2 (min tx.1 23)) (gPos (cLn tx.2 (min tx.1 23)) s)).1 = true → ∀ j, j < s + 1 → ((cLn tx.2 (min tx.1 23)) (gPos (cLn tx.2 (min tx.1 23)) j)).1 = true ∧ σ'.2.1 33 10 (2 * j) = nI ((cLn tx.2 (min tx.1 23)) (gPos (cLn tx.2 (min tx.1 23)) j)).2.2.1 ∧ σ'.2.1 33 10 (2 * j + 1) = nI ((cLn tx.2 (min tx.1 23)) (gPos (cLn tx.2 (min tx.1 23)) j)).2.2.2 := fun ht j hj => by
          by_cases e : j = s
          · rw [e]; exact ⟨ht, (hit ht).2⟩
          · rw [hlo _ (by omega), hlo _ (by omega)]; exact hrd j (by omega)
        refine go_istore_n (i := 2) (pc := 37) dX12_carriers_37 rfl (by decide) ?_
        refine go_iload_n (i := 2) (pc := 38) dX12_carriers_38 rfl rfl ?_
        refine go_if_eq 55 (pc := 39) dX12_carriers_39 (by decide) (fun h39 => ?_) (fun h39 => ?_)
        · rw [zb_0] at h39
          rw [if_pos h39] at hR1
          have kF := trivial
          refine go_iconst (nI 0) (pc := 55) dX12_carriers_55 (by decide) ?_
          refine go_istore_n (i := 3) (pc := 56) dX12_carriers_56 rfl (by decide) ?_
          refine go_goto 29 (pc := 57) dX12_carriers_57 (by decide) ?_
          first
            | (have _ := kM
               refine go_drop [0, 1, 3] rfl ?_
               exact ih (s + 1) _ (by omega) hR1 hK3 h203 hrd3 h43 hk3 hl3 hT3 hF3)
            | (have _ := kF
               refine go_iload_n (i := 3) (pc := 29) dX12_carriers_29 rfl rfl ?_
               refine go_if_eq 60 (pc := 30) dX12_carriers_30 (by decide) (fun h30b => ?_) (fun h30b => absurd rfl h30b)
               refine go_drop [0, 1, 2] rfl ?_
               refine go_at rfl (show _ = [(0, .ref (zA E 33 0)), (1, .int (nI tx.1)), (2, .int (zb (itR (cLn tx.2 (min tx.1 23)) tx.2 tx.1 (min tx.1 23) bd.1).1))] by rw [hR1, h39]; rfl) rfl ?_
               exact fin _ (by rw [hR1]; exact hK2) (fun h => by rw [hR1] at h; cases h) h42 hk2 hl2 hT2 hF2)
            | (have _ := kT
               refine go_iload_n (i := 3) (pc := 29) dX12_carriers_29 rfl rfl ?_
               refine go_if_eq 60 (pc := 30) dX12_carriers_30 (by decide) (fun h30b => ?_) (fun h30b => absurd rfl h30b)
               refine go_drop [0, 1, 2] rfl ?_
               refine go_at rfl (show _ = [(0, .ref (zA E 33 0)), (1, .int (nI tx.1)), (2, .int (zb (itR (cLn tx.2 (min tx.1 23)) tx.2 tx.1 (min tx.1 23) bd.1).1))] by rw [hR1, hok]; rfl) rfl ?_
               exact fin _ (by rw [hR1]; exact hK3) (fun _ => by rw [hR1]; exact ⟨h203, hrd3⟩) h43 hk3 hl3 hT3 hF3)
        · rw [zb_0] at h39
          have hok : ((cLn tx.2 (min tx.1 23)) (gPos (cLn tx.2 (min tx.1 23)) s)).1 = true := by simpa using h39
          rw [if_neg h39] at hR1
          refine go_aload_n (i := 0) (pc := 42) dX12_carriers_42 rfl rfl ?_
          refine go_bipush (nI 59) (pc := 43) dX12_carriers_43 (by decide) ?_
          refine go_callV ml_X12_192 mt_X12_takes (pc := 45) dX12_carriers_45 (c_X12_takes (v := 59) hK2 (by decide)) (by rfl) rfl (by rfl) (by decide) (by decide) rfl rfl (Nat.le_of_ble_eq_true rfl) (fun r σ' hp => ?_)
          obtain ⟨rfl, hK3, hFe⟩ := hp
          dsimp only [zRet]
          have hF3 := hF2.tr (hFe.mono (by simp) (by simp))
          have hT3 := hT2.fr hFe (by decide) (by decide)
          have h43 : σ'.1 33 4 = nI bd.1 := by rw [hFe.2.1 _ (by decide)]; exact h42
          have hk3 : σ'.2.1 33 3 = σ.2.1 33 3 := by rw [hFe.2.2.1 _ (by decide)]; exact hk2
          have hl3 : σ'.2.1 33 4 = σ.2.1 33 4 := by rw [hFe.2.2.1 _ (by decide)]; exact hl2
          have h203 : σ'.1 33 20 = nI (s + 1) := by rw [hFe.2.1 _ (by decide)]; exact (hit hok).1
          have hrd3 : ∀ j, j < s + 1 → ((cLn tx.2 (min tx.1 23)) (gPos (cLn tx.2 (min tx.1 23)) j)).1 = true ∧ σ'.2.1 33 10 (2 * j) = nI ((cLn tx.2 (min tx.1 23)) (gPos (cLn tx.2 (min tx.1 23)) j)).2.2.1 ∧ σ'.2.1 33 10 (2 * j + 1) = nI ((cLn tx.2 (min tx.1 23)) (gPos (cLn tx.2 (min tx.1 23)) j)).2.2.2 := fun j hj => by rw [hFe.2.2.1 10 (by decide)]; exact hrd2 hok j hj
          refine go_if_eq 55 (pc := 48) dX12_carriers_48 (by decide) (fun h48 => ?_) (fun h48 => ?_)
          · rw [zb_0d] at h48
            rw [if_neg h48] at hK3 hR1
            have kT := trivial
            refine go_iconst (nI 0) (pc := 55) dX12_carriers_55 (by decide) ?_
            refine go_istore_n (i := 3) (pc := 56) dX12_carriers_56 rfl (by decide) ?_
            refine go_goto 29 (pc := 57) dX12_carriers_57 (by decide) ?_
            first
              | (have _ := kM
                 refine go_drop [0, 1, 3] rfl ?_
                 exact ih (s + 1) _ (by omega) hR1 hK3 h203 hrd3 h43 hk3 hl3 hT3 hF3)
              | (have _ := kF
                 refine go_iload_n (i := 3) (pc := 29) dX12_carriers_29 rfl rfl ?_
                 refine go_if_eq 60 (pc := 30) dX12_carriers_30 (by decide) (fun h30b => ?_) (fun h30b => absurd rfl h30b)
                 refine go_drop [0, 1, 2] rfl ?_
                 refine go_at rfl (show _ = [(0, .ref (zA E 33 0)), (1, .int (nI tx.1)), (2, .int (zb (itR (cLn tx.2 (min tx.1 23)) tx.2 tx.1 (min tx.1 23) bd.1).1))] by rw [hR1, h39]; rfl) rfl ?_
                 exact fin _ (by rw [hR1]; exact hK2) (fun h => by rw [hR1] at h; cases h) h42 hk2 hl2 hT2 hF2)
              | (have _ := kT
                 refine go_iload_n (i := 3) (pc := 29) dX12_carriers_29 rfl rfl ?_
                 refine go_if_eq 60 (pc := 30) dX12_carriers_30 (by decide) (fun h30b => ?_) (fun h30b => absurd rfl h30b)
                 refine go_drop [0, 1, 2] rfl ?_
                 refine go_at rfl (show _ = [(0, .ref (zA E 33 0)), (1, .int (nI tx.1)), (2, .int (zb (itR (cLn tx.2 (min tx.1 23)) tx.2 tx.1 (min tx.1 23) bd.1).1))] by rw [hR1, hok]; rfl) rfl ?_
                 exact fin _ (by rw [hR1]; exact hK3) (fun _ => by rw [hR1]; exact ⟨h203, hrd3⟩) h43 hk3 hl3 hT3 hF3)
          · rw [zb_0d] at h48
            have h48 := Decidable.not_not.mp h48
            rw [if_pos h48] at hK3 hR1
            have kM := trivial
            refine go_iconst (nI 1) (pc := 51) dX12_carriers_51 (by decide) ?_
            refine go_goto 56 (pc := 52) dX12_carriers_52 (by decide) ?_
            refine go_istore_n (i := 3) (pc := 56) dX12_carriers_56 rfl (by decide) ?_
            refine go_goto 29 (pc := 57) dX12_carriers_57 (by decide) ?_
            first
              | (have _ := kM
                 refine go_drop [0, 1, 3] rfl ?_
                 exact ih (s + 1) _ (by omega) hR1 hK3 h203 hrd3 h43 hk3 hl3 hT3 hF3)
              | (have _ := kF
                 refine go_iload_n (i := 3) (pc := 29) dX12_carriers_29 rfl rfl ?_
                 refine go_if_eq 60 (pc := 30) dX12_carriers_30 (by decide) (fun h30b => ?_) (fun h30b => absurd rfl h30b)
                 refine go_drop [0, 1, 2] rfl ?_
                 refine go_at rfl (show _ = [(0, .ref (zA E 33 0)), (1, .int (nI tx.1)), (2, .int (zb (itR (cLn tx.2 (min tx.1 23)) tx.2 tx.1 (min tx.1 23) bd.1).1))] by rw [hR1, h39]; rfl) rfl ?_
                 exact fin _ (by rw [hR1]; exact hK2) (fun h => by rw [hR1] at h; cases h) h42 hk2 hl2 hT2 hF2)
              | (have _ := kT
                 refine go_iload_n (i := 3) (pc := 29) dX12_carriers_29 rfl rfl ?_
                 refine go_if_eq 60 (pc := 30) dX12_carriers_30 (by decide) (fun h30b => ?_) (fun h30b => absurd rfl h30b)
                 refine go_drop [0, 1, 2] rfl ?_
                 refine go_at rfl (show _ = [(0, .ref (zA E 33 0)), (1, .int (nI tx.1)), (2, .int (zb (itR (cLn tx.2 (min tx.1 23)) tx.2 tx.1 (min tx.1 23) bd.1).1))] by rw [hR1, hok]; rfl) rfl ?_
                 exact fin _ (by rw [hR1]; exact hK3) (fun _ => by rw [hR1]; exact ⟨h203, hrd3⟩) h43 hk3 hl3 hT3 hF3)
  refine go_aload_n (i := 0) (pc := 0) dX12_carriers_0 rfl rfl ?_
  refine go_iconst (nI 0) (pc := 1) dX12_carriers_1 (by decide) ?_
  refine go_puti fp_X12_97 (pc := 2) dX12_carriers_2 (by rfl) rfl rfl ?_
  have hF0 : Fr9 [0] [] σ (uS σ 33 0 (nI 0)) := Fr9.rf.uS (by simp)
  refine go_aload_n (i := 0) (pc := 5) dX12_carriers_5 rfl rfl ?_
  refine go_bipush (nI 23) (pc := 6) dX12_carriers_6 (by decide) ?_
  refine go_callV ml_X12_166 mt_X12_begins (pc := 8) dX12_carriers_8 (c_X12_begins (most := 23) (hT.fr hF0 (by decide) (by decide)) (by decide)) (by rfl) rfl (by rfl) (by decide) (by decide) rfl rfl (Nat.le_of_ble_eq_true rfl) (fun r σ' hp => ?_)
  obtain ⟨rfl, hK, hTt, -, hFb⟩ := hp
  dsimp only [zRet]
  have hFx : Fr9 [0, 4, 15, 16, 17, 18, 20] [3, 4, 10] σ σ' := (hF0.mono (by simp) (by simp)).tr (hFb.mono (by simp) (by simp))
  have h4b : σ'.1 33 4 = nI bd.1 := by rw [hFb.2.1 _ (by decide), hF0.2.1 _ (by decide)]; exact hX.2.1
  refine go_istore_n (i := 1) (pc := 11) dX12_carriers_11 rfl (by decide) ?_
  refine go_aload_n (i := 0) (pc := 12) dX12_carriers_12 rfl rfl ?_
  refine go_iconst (nI 0) (pc := 13) dX12_carriers_13 (by decide) ?_
  refine go_puti fp_X12_169 (pc := 14) dX12_carriers_14 (by rfl) rfl rfl ?_
  have hF1 : Fr9 [0, 4, 15, 16, 17, 18, 20] [3, 4, 10] σ (uS σ' 33 20 (nI 0)) := hFx.uS (by simp)
  have hK1 : Cur (uS σ' 33 20 (nI 0)) tx.2 0 (min tx.1 23) := hK.fr (fs := [20]) (js := []) (Fr9.rf.uS (by simp)) (by decide) (by decide) (by decide)
  have hT1 : TapeIs (uS σ' 33 20 (nI 0)) 0 tx.2 := hTt.fr (fs := [20]) (js := []) (Fr9.rf.uS (by simp)) (by decide) (by decide)
  have h201 : (uS σ' 33 20 (nI 0)).1 33 20 = nI 0 := uS_s _ _ _ _
  have h41 : (uS σ' 33 20 (nI 0)).1 33 4 = nI bd.1 := by rw [uS_1, if_neg (by decide)]; exact h4b
  have hk1 : (uS σ' 33 20 (nI 0)).2.1 33 3 = σ.2.1 33 3 := by rw [uS_2, hFb.2.2.1 _ (by decide), hF0.2.2.1 _ (by decide)]
  have hl1 : (uS σ' 33 20 (nI 0)).2.1 33 4 = σ.2.1 33 4 := by rw [uS_2, hFb.2.2.1 _ (by decide), hF0.2.2.1 _ (by decide)]
  generalize uS σ' 33 20 (nI 0) = τ1 at hF1 hK1 hT1 h201 h41 hk1 hl1 ⊢
  refine go_iconst (nI 1) (pc := 17) dX12_carriers_17 (by decide) ?_
  refine go_istore_n (i := 2) (pc := 18) dX12_carriers_18 rfl (by decide) ?_
  refine go_iload_n (i := 1) (pc := 19) dX12_carriers_19 rfl rfl ?_
  refine go_if_le 27 (pc := 20) dX12_carriers_20 (by decide) (fun h20 => ?_) (fun h20 => ?_)
  · first | rw [zb_0d] at h20 | rw [zn_le0 (by omega)] at h20 | rw [zi_le0] at h20
    have hL0 : tx.1 = 0 := by omega
    have hR0 : (itR (cLn tx.2 (min tx.1 23)) tx.2 tx.1 (min tx.1 23) bd.1) = (true, 0, 0) := if_pos hL0
    refine go_iconst (nI 0) (pc := 27) dX12_carriers_27 (by decide) ?_
    refine go_istore_n (i := 3) (pc := 28) dX12_carriers_28 rfl (by decide) ?_
    first
      | (have _ := hR0
         refine go_iload_n (i := 3) (pc := 29) dX12_carriers_29 rfl rfl ?_
         refine go_if_eq 60 (pc := 30) dX12_carriers_30 (by decide) (fun h30b => ?_) (fun h30b => absurd rfl h30b)
         refine go_drop [0, 1, 2] rfl ?_
         refine go_at rfl (show _ = [(0, .ref (zA E 33 0)), (1, .int (nI tx.1)), (2, .int (zb (itR (cLn tx.2 (min tx.1 23)) tx.2 tx.1 (min tx.1 23) bd.1).1))] by rw [hR0]; rfl) rfl ?_
         exact fin τ1 (by rw [hR0]; exact hK1) (fun _ => by rw [hR0]; exact ⟨h201, fun j hj => absurd hj (Nat.not_lt_zero _)⟩) h41 hk1 hl1 hT1 hF1)
      | (refine go_drop [0, 1, 3] rfl ?_
         exact loop (8 - bd.1) 0 τ1 (by omega) (if_neg hL0) hK1 h201 (fun j hj => absurd hj (Nat.not_lt_zero _)) h41 hk1 hl1 hT1 hF1)
  · first | rw [zb_0d] at h20 | rw [zn_le0 (by omega)] at h20 | rw [zi_le0] at h20
    have hL0 : ¬ tx.1 = 0 := by omega
    refine go_iconst (nI 1) (pc := 23) dX12_carriers_23 (by decide) ?_
    refine go_goto 28 (pc := 24) dX12_carriers_24 (by decide) ?_
    refine go_istore_n (i := 3) (pc := 28) dX12_carriers_28 rfl (by decide) ?_
    first
      | (have _ := hR0
         refine go_iload_n (i := 3) (pc := 29) dX12_carriers_29 rfl rfl ?_
         refine go_if_eq 60 (pc := 30) dX12_carriers_30 (by decide) (fun h30b => ?_) (fun h30b => absurd rfl h30b)
         refine go_drop [0, 1, 2] rfl ?_
         refine go_at rfl (show _ = [(0, .ref (zA E 33 0)), (1, .int (nI tx.1)), (2, .int (zb (itR (cLn tx.2 (min tx.1 23)) tx.2 tx.1 (min tx.1 23) bd.1).1))] by rw [hR0]; rfl) rfl ?_
         exact fin τ1 (by rw [hR0]; exact hK1) (fun _ => by rw [hR0]; exact ⟨h201, fun j hj => absurd hj (Nat.not_lt_zero _)⟩) h41 hk1 hl1 hT1 hF1)
      | (refine go_drop [0, 1, 3] rfl ?_
         exact loop (8 - bd.1) 0 τ1 (by omega) (if_neg hL0) hK1 h201 (fun j hj => absurd hj (Nat.not_lt_zero _)) h41 hk1 hl1 hT1 hF1)

set_option maxRecDepth 4000 in
theorem c_X12_mouths {E : zE} {σ : zT} {tx : Nat × (Nat → Nat)} {bd : Nat × (Nat → Nat) × (Nat → Nat)} {sk : Nat × (Nat → Nat)} {tw : Nat × (Nat → Nat) × (Nat → Nat)} {xs : List Nat} {ld : Nat × (Nat → Nat)} {pa sh : Nat × (Nat → Nat → Nat)} {ru : Nat × (Nat → Nat) × (Nat → Nat)} {to : Nat × (Nat → Int64)} (hC : RefIs σ tx bd sk tw xs ld pa sh ru to) : CalM E 4 yX12_mouths cX12_mouths 6 (some .int) [.ref (zA E 33 0)] σ (fun r σ' => r = some (.int (match (mouF tw.1 tx.1 tx.2).1 with | none => nI (mouF tw.1 tx.1 tx.2).2 | some q => mF q)) ∧ RefIs σ' (0, tx.2) bd sk (match (mouF tw.1 tx.1 tx.2).1 with | none => (tw.1 + (mouF tw.1 tx.1 tx.2).2, mouP tw.1 tx.1 tw.2.1 tx.2, mouQ tw.1 tx.1 tw.2.2 tx.2) | some _ => tw) xs ld pa sh ru to ∧ FrG [33] σ σ') := by
  refine cal_of_go (own := RX12) rfl (by decide +kernel) (Nat.le_of_ble_eq_true rfl) ?_
  have hT := hC.2.1
  have hL := hT.2.1
  have hX := hC.2.2.2.2.1
  have hx8 := hX.1
  have hone : ∀ p, p ≤ (min tx.1 47) → ((mLn tx.2 (min tx.1 47)) p).2.1 ≤ (min tx.1 47) := fun p hp => (mLn_b hp).1
  obtain ⟨hRb, hRc⟩ := itR_b (f := tx.2) (L := tx.1) (nc := tw.1) hone
  obtain ⟨hres, hcnt, hiff⟩ := mou_it (f := tx.2) (L := tx.1) (nc := tw.1)
  have cpy : (mouF tw.1 tx.1 tx.2).1 = none → ∀ (i : Nat) (τ : zT), i ≤ (itR (mLn tx.2 (min tx.1 47)) tx.2 tx.1 (min tx.1 47) tw.1).2.2 → τ.1 33 5 = nI (tw.1 + i) → τ.1 33 20 = nI (itR (mLn tx.2 (min tx.1 47)) tx.2 tx.1 (min tx.1 47) tw.1).2.2 → (∀ j, j < (itR (mLn tx.2 (min tx.1 47)) tx.2 tx.1 (min tx.1 47) tw.1).2.2 → ((mLn tx.2 (min tx.1 47)) (gPos (mLn tx.2 (min tx.1 47)) j)).1 = true ∧ τ.2.1 33 10 (2 * j) = nI ((mLn tx.2 (min tx.1 47)) (gPos (mLn tx.2 (min tx.1 47)) j)).2.2.1 ∧ τ.2.1 33 10 (2 * j + 1) = nI ((mLn tx.2 (min tx.1 47)) (gPos (mLn tx.2 (min tx.1 47)) j)).2.2.2) → (∀ j, j < tw.1 + i → τ.2.1 33 5 j = nI ((fun i => if i < tw.1 then tw.2.1 i else ((mLn tx.2 (min tx.1 47)) (gPos (mLn tx.2 (min tx.1 47)) (i - tw.1))).2.2.1) j) ∧ τ.2.1 33 6 j = nI ((fun i => if i < tw.1 then tw.2.2 i else ((mLn tx.2 (min tx.1 47)) (gPos (mLn tx.2 (min tx.1 47)) (i - tw.1))).2.2.2) j)) → TapeIs τ 0 tx.2 → Fr9 [0, 5, 15, 16, 17, 18, 20] [5, 6, 10] σ τ → GoM E 4 RX12 cX12_mouths 6 (some .int) (fun r σ' => r = some (.int (match (mouF tw.1 tx.1 tx.2).1 with | none => nI (mouF tw.1 tx.1 tx.2).2 | some q => mF q)) ∧ RefIs σ' (0, tx.2) bd sk (match (mouF tw.1 tx.1 tx.2).1 with | none => (tw.1 + (mouF tw.1 tx.1 tx.2).2, mouP tw.1 tx.1 tw.2.1 tx.2, mouQ tw.1 tx.1 tw.2.2 tx.2) | some _ => tw) xs ld pa sh ru to ∧ FrG [33] σ σ') τ 81 [(0, .ref (zA E 33 0)), (5, .int (nI i))] [] := by
    intro hcl i
    induction hz : (itR (mLn tx.2 (min tx.1 47)) tx.2 tx.1 (min tx.1 47) tw.1).2.2 - i using Nat.strongRecOn generalizing i with
    | ind z ih =>
      intro τ hi h4 h20 hrd hkl hTt hF
      refine go_iload (pc := 81) dX12_mouths_81 rfl ?_
      refine go_aload_n (i := 0) (pc := 83) dX12_mouths_83 rfl rfl ?_
      refine go_geti fl_X12_169 (pc := 84) dX12_mouths_84 (by rfl) ?_
      rw [h20]
      refine go_icmp_ge 144 (pc := 87) dX12_mouths_87 (by decide) (fun h87 => ?_) (fun h87 => ?_)
      · first | rw [nI_leI (by omega) (by omega)] at h87 | rw [zi_leN (by omega)] at h87 | rw [zi_Nle (by omega)] at h87 | rw [zi_le] at h87
        have e : i = (itR (mLn tx.2 (min tx.1 47)) tx.2 tx.1 (min tx.1 47) tw.1).2.2 := by omega
        subst e
        refine go_aload_n (i := 0) (pc := 144) dX12_mouths_144 rfl rfl ?_
        refine go_geti fl_X12_169 (pc := 145) dX12_mouths_145 (by rfl) ?_
        rw [h20]
        refine go_ireturn (pc := 148) dX12_mouths_148 rfl ?_
        have hnew := (show SortIs τ (tw.1 + (itR (mLn tx.2 (min tx.1 47)) tx.2 tx.1 (min tx.1 47) tw.1).2.2) (fun i => if i < tw.1 then tw.2.1 i else ((mLn tx.2 (min tx.1 47)) (gPos (mLn tx.2 (min tx.1 47)) (i - tw.1))).2.2.1) (fun i => if i < tw.1 then tw.2.2 i else ((mLn tx.2 (min tx.1 47)) (gPos (mLn tx.2 (min tx.1 47)) (i - tw.1))).2.2.2) from ⟨by omega, h4, fun j hj => ⟨(hkl j hj).1, (hkl j hj).2, by
          dsimp only
          by_cases e : j < tw.1
          · rw [if_pos e, if_pos e]
            exact (hX.2.2 j e).2.2
          · rw [if_neg e, if_neg e]
            have hv := (mLn_b (mLn_p (hrd (j - tw.1) (by omega)).1)).2 (hrd (j - tw.1) (by omega)).1
            exact ⟨hv.2.1, hv.2.2.1, hv.2.2.2⟩⟩⟩)
        rw [hcl]
        refine ⟨by rw [hcnt hcl], ?_, hF.1⟩
        dsimp only
        rw [hcnt hcl]
        have hnew2 : SortIs τ (tw.1 + (itR (mLn tx.2 (min tx.1 47)) tx.2 tx.1 (min tx.1 47) tw.1).2.2) (mouP tw.1 tx.1 tw.2.1 tx.2) (mouQ tw.1 tx.1 tw.2.2 tx.2) := by
          refine ⟨hnew.1, hnew.2.1, fun j hj => ?_⟩
          have h := hnew.2.2 j hj
          dsimp only at h
          unfold mouP mouQ
          rw [gPos_mou] at h
          exact h
        exact ⟨(hC.1).fr hF (by decide) (by decide), hTt, (hC.2.2.1).fr hF (by decide) (by decide) (by decide), (hC.2.2.2.1).fr hF (by decide) (by decide), hnew2, (hC.2.2.2.2.2.1).fr hF (by decide) (by decide), (hC.2.2.2.2.2.2.1).fr hF (by decide) (by decide), (hC.2.2.2.2.2.2.2.1).fr hF (by decide) (by decide), (hC.2.2.2.2.2.2.2.2.1).fr hF (by decide) (by decide) (by decide), (hC.2.2.2.2.2.2.2.2.2).fr hF (by decide) (by decide)⟩
      · first | rw [nI_leI (by omega) (by omega)] at h87 | rw [zi_leN (by omega)] at h87 | rw [zi_Nle (by omega)] at h87 | rw [zi_le] at h87
        refine go_aload_n (i := 0) (pc := 90) dX12_mouths_90 rfl rfl ?_
        refine go_getr2 fl_X12_30 (pc := 91) dX12_mouths_91 (by rfl) (by rfl) (by rfl) ?_
        refine go_aload_n (i := 0) (pc := 94) dX12_mouths_94 rfl rfl ?_
        refine go_geti fl_X12_200 (pc := 95) dX12_mouths_95 (by rfl) ?_
        rw [h4]
        refine go_aload_n (i := 0) (pc := 98) dX12_mouths_98 rfl rfl ?_
        refine go_getr2 fl_X12_45 (pc := 99) dX12_mouths_99 (by rfl) (by rfl) (by rfl) ?_
        refine go_iconst (nI 2) (pc := 102) dX12_mouths_102 (by decide) ?_
        refine go_iload (pc := 103) dX12_mouths_103 rfl ?_
        first | with_reducible refine go_imulN (pc := 105) dX12_mouths_105 ?_ | refine go_imul (pc := 105) dX12_mouths_105 ?_
        refine go_iaload (2 * i) (pc := 106) dX12_mouths_106 rfl rfl rfl (by omega) ?_
        rw [(hrd i (by omega)).2.1]
        refine go_iastore (tw.1 + i) (pc := 107) dX12_mouths_107 rfl rfl rfl (by omega) ?_
        refine go_aload_n (i := 0) (pc := 108) dX12_mouths_108 rfl rfl ?_
        refine go_getr2 fl_X12_33 (pc := 109) dX12_mouths_109 (by rfl) (by rfl) (by rfl) ?_
        refine go_aload_n (i := 0) (pc := 112) dX12_mouths_112 rfl rfl ?_
        refine go_geti fl_X12_200 (pc := 113) dX12_mouths_113 (by rfl) ?_
        rw [show (uA τ 33 5 (upd (τ.2.1 33 5) (tw.1 + i) (nI ((mLn tx.2 (min tx.1 47)) (gPos (mLn tx.2 (min tx.1 47)) i)).2.2.1))).1 33 5 = nI (tw.1 + i) from h4]
        refine go_aload_n (i := 0) (pc := 116) dX12_mouths_116 rfl rfl ?_
        refine go_getr2 fl_X12_45 (pc := 117) dX12_mouths_117 (by rfl) (by rfl) (by rfl) ?_
        refine go_iconst (nI 2) (pc := 120) dX12_mouths_120 (by decide) ?_
        refine go_iload (pc := 121) dX12_mouths_121 rfl ?_
        first | with_reducible refine go_imulN (pc := 123) dX12_mouths_123 ?_ | refine go_imul (pc := 123) dX12_mouths_123 ?_
        refine go_iconst (nI 1) (pc := 124) dX12_mouths_124 (by decide) ?_
        first | with_reducible refine go_iaddN (pc := 125) dX12_mouths_125 ?_ | refine go_iadd (pc := 125) dX12_mouths_125 ?_
        refine go_iaload (2 * i + 1) (pc := 126) dX12_mouths_126 rfl rfl rfl (by omega) ?_
        rw [show (uA τ 33 5 (upd (τ.2.1 33 5) (tw.1 + i) (nI ((mLn tx.2 (min tx.1 47)) (gPos (mLn tx.2 (min tx.1 47)) i)).2.2.1))).2.1 33 10 (2 * i + 1) = nI ((mLn tx.2 (min tx.1 47)) (gPos (mLn tx.2 (min tx.1 47)) i)).2.2.2 from (by rw [uA_2, if_neg (by decide)]; exact (hrd i (by omega)).2.2)]
        refine go_iastore (tw.1 + i) (pc := 127) dX12_mouths_127 rfl rfl rfl (by omega) ?_
        refine go_aload_n (i := 0) (pc := 128) dX12_mouths_128 rfl rfl ?_
        refine go_dup (pc := 129) dX12_mouths_129 rfl ?_
        refine go_geti fl_X12_200 (pc := 130) dX12_mouths_130 (by rfl) ?_
        rw [show (uA (uA τ 33 5 (upd (τ.2.1 33 5) (tw.1 + i) (nI ((mLn tx.2 (min tx.1 47)) (gPos (mLn tx.2 (min tx.1 47)) i)).2.2.1))) 33 6 (upd ((uA τ 33 5 (upd (τ.2.1 33 5) (tw.1 + i) (nI ((mLn tx.2 (min tx.1 47)) (gPos (mLn tx.2 (min tx.1 47)) i)).2.2.1))).2.1 33 6) (tw.1 + i) (nI ((mLn tx.2 (min tx.1 47)) (gPos (mLn tx.2 (min tx.1 47)) i)).2.2.2))).1 33 5 = nI (tw.1 + i) from h4]
        refine go_iconst (nI 1) (pc := 133) dX12_mouths_133 (by decide) ?_
        first | with_reducible refine go_iaddN (pc := 134) dX12_mouths_134 ?_ | refine go_iadd (pc := 134) dX12_mouths_134 ?_
        refine go_puti fp_X12_200 (pc := 135) dX12_mouths_135 (by rfl) rfl rfl ?_
        refine go_iincN (pc := 138) dX12_mouths_138 rfl (by decide) ?_
        refine go_goto 81 (pc := 141) dX12_mouths_141 (by decide) ?_
        refine ih ((itR (mLn tx.2 (min tx.1 47)) tx.2 tx.1 (min tx.1 47) tw.1).2.2 - (i + 1)) (by omega) (i + 1) rfl _ (by omega) (by rw [uS_s]; rfl) ?_ (fun j hj => ?_) (fun j hj => ?_) ?_ (((hF.uA (by simp)).uA (by simp)).uS (by simp))
        · rw [uS_1, if_neg (by decide)]; exact h20
        · rw [uS_2, uA_2, if_neg (by decide), uA_2, if_neg (by decide)]; exact hrd j hj
        · rw [uS_2, uA_2, if_neg (by decide), uA_s, uA_s, uA_2, if_neg (by decide), upd_at, upd_at]
          by_cases e : j = tw.1 + i
          · rw [if_pos e, if_pos e, e]
            dsimp only
            rw [if_neg (by omega), if_neg (by omega), Nat.add_sub_cancel_left]
            exact ⟨rfl, rfl⟩
          · rw [if_neg e, if_neg e]
            exact hkl j (by omega)
        · exact hTt.fr (fs := [5]) (js := [5, 6]) (((Fr9.rf.uA (by simp)).uA (by simp)).uS (by simp)) (by decide) (by decide)
  have fin : ∀ τ, Cur τ tx.2 (itR (mLn tx.2 (min tx.1 47)) tx.2 tx.1 (min tx.1 47) tw.1).2.1 (min tx.1 47) → ((itR (mLn tx.2 (min tx.1 47)) tx.2 tx.1 (min tx.1 47) tw.1).1 = true → τ.1 33 20 = nI (itR (mLn tx.2 (min tx.1 47)) tx.2 tx.1 (min tx.1 47) tw.1).2.2 ∧ (∀ j, j < (itR (mLn tx.2 (min tx.1 47)) tx.2 tx.1 (min tx.1 47) tw.1).2.2 → ((mLn tx.2 (min tx.1 47)) (gPos (mLn tx.2 (min tx.1 47)) j)).1 = true ∧ τ.2.1 33 10 (2 * j) = nI ((mLn tx.2 (min tx.1 47)) (gPos (mLn tx.2 (min tx.1 47)) j)).2.2.1 ∧ τ.2.1 33 10 (2 * j + 1) = nI ((mLn tx.2 (min tx.1 47)) (gPos (mLn tx.2 (min tx.1 47)) j)).2.2.2)) → τ.1 33 5 = nI tw.1 → τ.2.1 33 5 = σ.2.1 33 5 → τ.2.1 33 6 = σ.2.1 33 6 → TapeIs τ 0 tx.2 → Fr9 [0, 5, 15, 16, 17, 18, 20] [5, 6, 10] σ τ → GoM E 4 RX12 cX12_mouths 6 (some .int) (fun r σ' => r = some (.int (match (mouF tw.1 tx.1 tx.2).1 with | none => nI (mouF tw.1 tx.1 tx.2).2 | some q => mF q)) ∧ RefIs σ' (0, tx.2) bd sk (match (mouF tw.1 tx.1 tx.2).1 with | none => (tw.1 + (mouF tw.1 tx.1 tx.2).2, mouP tw.1 tx.1 tw.2.1 tx.2, mouQ tw.1 tx.1 tw.2.2 tx.2) | some _ => tw) xs ld pa sh ru to ∧ FrG [33] σ σ') τ 60 [(0, .ref (zA E 33 0)), (1, .int (nI tx.1)), (2, .int (zb (itR (mLn tx.2 (min tx.1 47)) tx.2 tx.1 (min tx.1 47) tw.1).1))] [] := by
    intro τ hK hrd h4 hk hl hTt hF
    have hneg := faO_neg (n := tx.1) (most := 47) (a := (itR (mLn tx.2 (min tx.1 47)) tx.2 tx.1 (min tx.1 47) tw.1).2.1) (lim := (min tx.1 47)) (b := (itR (mLn tx.2 (min tx.1 47)) tx.2 tx.1 (min tx.1 47) tw.1).1) (by omega) (by decide)
    refine go_aload_n (i := 0) (pc := 60) dX12_mouths_60 rfl rfl ?_
    refine go_iload_n (i := 1) (pc := 61) dX12_mouths_61 rfl rfl ?_
    refine go_bipush (nI 47) (pc := 62) dX12_mouths_62 (by decide) ?_
    refine go_iload_n (i := 2) (pc := 64) dX12_mouths_64 rfl rfl ?_
    refine go_callV ml_X12_196 mt_X12_faultOf (pc := 65) dX12_mouths_65 (c_X12_faultOf (b := (itR (mLn tx.2 (min tx.1 47)) tx.2 tx.1 (min tx.1 47) tw.1).1) hK hL (by decide)) (by rfl) rfl (by rfl) (by decide) (by decide) rfl rfl (Nat.le_of_ble_eq_true rfl) (fun r σ' hp => ?_)
    obtain ⟨rfl, hσ⟩ := hp
    rw [hσ]
    clear hσ
    dsimp only [zRet]
    refine go_istore (pc := 68) dX12_mouths_68 (by decide) ?_
    refine go_iload (pc := 70) dX12_mouths_70 rfl ?_
    refine go_if_ge 78 (pc := 72) dX12_mouths_72 (by decide) (fun h72 => ?_) (fun h72 => ?_)
    · rw [zi_ge0] at h72
      have hyes : tx.1 ≤ 47 ∧ (itR (mLn tx.2 (min tx.1 47)) tx.2 tx.1 (min tx.1 47) tw.1).1 = true ∧ (itR (mLn tx.2 (min tx.1 47)) tx.2 tx.1 (min tx.1 47) tw.1).2.1 = (min tx.1 47) := by
        apply Classical.byContradiction
        intro hno
        have := hneg.mpr hno
        omega
      have hcl := hiff.mpr hyes
      obtain ⟨h20, hrows⟩ := hrd hyes.2.1
      refine go_iconst (nI 0) (pc := 78) dX12_mouths_78 (by decide) ?_
      refine go_istore (pc := 79) dX12_mouths_79 (by decide) ?_
      refine go_drop [0, 4] rfl ?_
      refine cpy hcl 0 τ (Nat.zero_le _) h4 h20 hrows (fun j hj => ?_) hTt hF
      dsimp only
      rw [hk, hl, if_pos (by omega), if_pos (by omega)]
      exact ⟨(hX.2.2 j hj).1, (hX.2.2 j hj).2.1⟩
    · rw [zi_ge0] at h72
      have hno : ¬ (tx.1 ≤ 47 ∧ (itR (mLn tx.2 (min tx.1 47)) tx.2 tx.1 (min tx.1 47) tw.1).1 = true ∧ (itR (mLn tx.2 (min tx.1 47)) tx.2 tx.1 (min tx.1 47) tw.1).2.1 = (min tx.1 47)) := hneg.mp (by omega)
      obtain ⟨q, hq⟩ : ∃ q, (mouF tw.1 tx.1 tx.2).1 = some q := by
        cases e : (mouF tw.1 tx.1 tx.2).1 with
        | none => exact absurd (hiff.mp e) hno
        | some q => exact ⟨q, rfl⟩
      rw [hq] at hres ⊢
      refine go_iload (pc := 75) dX12_mouths_75 rfl ?_
      refine go_ireturn (pc := 77) dX12_mouths_77 rfl ?_
      exact ⟨by rw [← hres], ⟨(hC.1).fr hF (by decide) (by decide), hTt, (hC.2.2.1).fr hF (by decide) (by decide) (by decide), (hC.2.2.2.1).fr hF (by decide) (by decide), (hX.cg h4 hk hl), (hC.2.2.2.2.2.1).fr hF (by decide) (by decide), (hC.2.2.2.2.2.2.1).fr hF (by decide) (by decide), (hC.2.2.2.2.2.2.2.1).fr hF (by decide) (by decide), (hC.2.2.2.2.2.2.2.2.1).fr hF (by decide) (by decide) (by decide), (hC.2.2.2.2.2.2.2.2.2).fr hF (by decide) (by decide)⟩, hF.1⟩
  have loop : ∀ (k s : Nat) (τ : zT), tw.1 + s + k = 8 → (itR (mLn tx.2 (min tx.1 47)) tx.2 tx.1 (min tx.1 47) tw.1) = mR (mLn tx.2 (min tx.1 47)) tx.2 (min tx.1 47) k s (gPos (mLn tx.2 (min tx.1 47)) s) → Cur τ tx.2 (gPos (mLn tx.2 (min tx.1 47)) s) (min tx.1 47) → τ.1 33 20 = nI s → (∀ j, j < s → ((mLn tx.2 (min tx.1 47)) (gPos (mLn tx.2 (min tx.1 47)) j)).1 = true ∧ τ.2.1 33 10 (2 * j) = nI ((mLn tx.2 (min tx.1 47)) (gPos (mLn tx.2 (min tx.1 47)) j)).2.2.1 ∧ τ.2.1 33 10 (2 * j + 1) = nI ((mLn tx.2 (min tx.1 47)) (gPos (mLn tx.2 (min tx.1 47)) j)).2.2.2) → τ.1 33 5 = nI tw.1 → τ.2.1 33 5 = σ.2.1 33 5 → τ.2.1 33 6 = σ.2.1 33 6 → TapeIs τ 0 tx.2 → Fr9 [0, 5, 15, 16, 17, 18, 20] [5, 6, 10] σ τ → GoM E 4 RX12 cX12_mouths 6 (some .int) (fun r σ' => r = some (.int (match (mouF tw.1 tx.1 tx.2).1 with | none => nI (mouF tw.1 tx.1 tx.2).2 | some q => mF q)) ∧ RefIs σ' (0, tx.2) bd sk (match (mouF tw.1 tx.1 tx.2).1 with | none => (tw.1 + (mouF tw.1 tx.1 tx.2).2, mouP tw.1 tx.1 tw.2.1 tx.2, mouQ tw.1 tx.1 tw.2.2 tx.2) | some _ => tw) xs ld pa sh ru to ∧ FrG [33] σ σ') τ 29 [(0, .ref (zA E 33 0)), (1, .int (nI tx.1)), (3, .int (nI 1))] [] := by
    intro k
    induction k with
    | zero =>
      intro s τ hs hR hK h20 hrd h4 hk hl hTt hF
      have hR0 : (itR (mLn tx.2 (min tx.1 47)) tx.2 tx.1 (min tx.1 47) tw.1) = (false, gPos (mLn tx.2 (min tx.1 47)) s, s) := hR
      refine go_iload_n (i := 3) (pc := 29) dX12_mouths_29 rfl rfl ?_
      refine go_if_eq 60 (pc := 30) dX12_mouths_30 (by decide) (fun h30 => ?_) (fun h30 => ?_)
      · exact absurd h30 (by decide)
      · refine go_aload_n (i := 0) (pc := 33) dX12_mouths_33 rfl rfl ?_
        refine go_callV ml_X12_203 mt_X12_readsSort (pc := 34) dX12_mouths_34 (c_rsFull hK h4 h20 (by omega)) (by rfl) rfl (by rfl) (by decide) (by decide) rfl rfl (Nat.le_of_ble_eq_true rfl) (fun r σ' hp => ?_)
        obtain ⟨rfl, hσ⟩ := hp
        rw [hσ]
        clear hσ
        dsimp only [zRet]
        refine go_istore_n (i := 2) (pc := 37) dX12_mouths_37 rfl (by decide) ?_
        refine go_iload_n (i := 2) (pc := 38) dX12_mouths_38 rfl rfl ?_
        refine go_if_eq 55 (pc := 39) dX12_mouths_39 (by decide) (fun h39 => ?_) (fun h39 => ?_)
        · refine go_iconst (nI 0) (pc := 55) dX12_mouths_55 (by decide) ?_
          refine go_istore_n (i := 3) (pc := 56) dX12_mouths_56 rfl (by decide) ?_
          refine go_goto 29 (pc := 57) dX12_mouths_57 (by decide) ?_
          refine go_iload_n (i := 3) (pc := 29) dX12_mouths_29 rfl rfl ?_
          refine go_if_eq 60 (pc := 30) dX12_mouths_30 (by decide) (fun h30b => ?_) (fun h30b => absurd rfl h30b)
          refine go_drop [0, 1, 2] rfl ?_
          refine go_at rfl (show _ = [(0, .ref (zA E 33 0)), (1, .int (nI tx.1)), (2, .int (zb (itR (mLn tx.2 (min tx.1 47)) tx.2 tx.1 (min tx.1 47) tw.1).1))] by rw [hR0]; rfl) rfl ?_
          exact fin τ (by rw [hR0]; exact hK) (fun h => by rw [hR0] at h; cases h) h4 hk hl hTt hF
        · exact absurd rfl h39
    | succ k ih =>
      intro s τ hs hR hK h20 hrd h4 hk hl hTt hF
      have hR1 := hR
      rw [mR] at hR1
      have hpl := hK.2.2.1
      have hol := hone _ hpl
      refine go_iload_n (i := 3) (pc := 29) dX12_mouths_29 rfl rfl ?_
      refine go_if_eq 60 (pc := 30) dX12_mouths_30 (by decide) (fun h30 => ?_) (fun h30 => ?_)
      · exact absurd h30 (by decide)
      · refine go_aload_n (i := 0) (pc := 33) dX12_mouths_33 rfl rfl ?_
        refine go_callV ml_X12_203 mt_X12_readsSort (pc := 34) dX12_mouths_34 (c_X12_readsSort hK h4 h20 (by omega)) (by rfl) rfl (by rfl) (by decide) (by decide) rfl rfl (Nat.le_of_ble_eq_true rfl) (fun r σ' hp => ?_)
        obtain ⟨rfl, hK2, hit, hlo, hFd⟩ := hp
        dsimp only [zRet]
        have hF2 := hF.tr (hFd.mono (by simp) (by simp))
        have hT2 := hTt.fr hFd (by decide) (by decide)
        have h42 : σ'.1 33 5 = nI tw.1 := by rw [hFd.2.1 _ (by decide)]; exact h4
        have hk2 : σ'.2.1 33 5 = σ.2.1 33 5 := by rw [hFd.2.2.1 _ (by decide)]; exact hk
        have hl2 : σ'.2.1 33 6 = σ.2.1 33 6 := by rw [hFd.2.2.1 _ (by decide)]; exact hl
        have hrd2 : ((mLn tx.2 (min tx.1 47)) (gPos (mLn tx.2 (min tx.1 47)) s)).1 = true → ∀ j, j < s + 1 → ((mLn tx.2 (min tx.1 47)) (gPos (mLn tx.2 (min tx.1 47)) j)).1 = true ∧ σ'.2.1 33 10 (2 * j) = nI ((mLn tx.2 (min tx.1 47)) (gPos (mLn tx.2 (min tx.1 47)) j)).2.2.1 ∧ σ'.2.1 33 10 (2 * j + 1) = nI ((mLn tx.2 (min tx.1 47)) (gPos (mLn tx.2 (min tx.1 47)) j)).2.2.2 := fun ht j hj => by
          by_cases e : j = s
          · rw [e]; exact ⟨ht, (hit ht).2⟩
          · rw [hlo _ (by omega), hlo _ (by omega)]; exact hrd j (by omega)
        refine go_istore_n (i := 2) (pc := 37) dX12_mouths_37 rfl (by decide) ?_
        refine go_iload_n (i := 2) (pc := 38) dX12_mouths_38 rfl rfl ?_
        refine go_if_eq 55 (pc := 39) dX12_mouths_39 (by decide) (fun h39 => ?_) (fun h39 => ?_)
        · rw [zb_0] at h39
          rw [if_pos h39] at hR1
          have kF := trivial
          refine go_iconst (nI 0) (pc := 55) dX12_mouths_55 (by decide) ?_
          refine go_istore_n (i := 3) (pc := 56) dX12_mouths_56 rfl (by decide) ?_
          refine go_goto 29 (pc := 57) dX12_mouths_57 (by decide) ?_
          first
            | (have _ := kM
               refine go_drop [0, 1, 3] rfl ?_
               exact ih (s + 1) _ (by omega) hR1 hK3 h203 hrd3 h43 hk3 hl3 hT3 hF3)
            | (have _ := kF
               refine go_iload_n (i := 3) (pc := 29) dX12_mouths_29 rfl rfl ?_
               refine go_if_eq 60 (pc := 30) dX12_mouths_30 (by decide) (fun h30b => ?_) (fun h30b => absurd rfl h30b)
               refine go_drop [0, 1, 2] rfl ?_
               refine go_at rfl (show _ = [(0, .ref (zA E 33 0)), (1, .int (nI tx.1)), (2, .int (zb (itR (mLn tx.2 (min tx.1 47)) tx.2 tx.1 (min tx.1 47) tw.1).1))] by rw [hR1, h39]; rfl) rfl ?_
               exact fin _ (by rw [hR1]; exact hK2) (fun h => by rw [hR1] at h; cases h) h42 hk2 hl2 hT2 hF2)
            | (have _ := kT
               refine go_iload_n (i := 3) (pc := 29) dX12_mouths_29 rfl rfl ?_
               refine go_if_eq 60 (pc := 30) dX12_mouths_30 (by decide) (fun h30b => ?_) (fun h30b => absurd rfl h30b)
               refine go_drop [0, 1, 2] rfl ?_
               refine go_at rfl (show _ = [(0, .ref (zA E 33 0)), (1, .int (nI tx.1)), (2, .int (zb (itR (mLn tx.2 (min tx.1 47)) tx.2 tx.1 (min tx.1 47) tw.1).1))] by rw [hR1, hok]; rfl) rfl ?_
               exact fin _ (by rw [hR1]; exact hK3) (fun _ => by rw [hR1]; exact ⟨h203, hrd3⟩) h43 hk3 hl3 hT3 hF3)
        · rw [zb_0] at h39
          have hok : ((mLn tx.2 (min tx.1 47)) (gPos (mLn tx.2 (min tx.1 47)) s)).1 = true := by simpa using h39
          rw [if_neg h39] at hR1
          refine go_aload_n (i := 0) (pc := 42) dX12_mouths_42 rfl rfl ?_
          refine go_bipush (nI 59) (pc := 43) dX12_mouths_43 (by decide) ?_
          refine go_callV ml_X12_192 mt_X12_takes (pc := 45) dX12_mouths_45 (c_X12_takes (v := 59) hK2 (by decide)) (by rfl) rfl (by rfl) (by decide) (by decide) rfl rfl (Nat.le_of_ble_eq_true rfl) (fun r σ' hp => ?_)
          obtain ⟨rfl, hK3, hFe⟩ := hp
          dsimp only [zRet]
          have hF3 := hF2.tr (hFe.mono (by simp) (by simp))
          have hT3 := hT2.fr hFe (by decide) (by decide)
          have h43 : σ'.1 33 5 = nI tw.1 := by rw [hFe.2.1 _ (by decide)]; exact h42
          have hk3 : σ'.2.1 33 5 = σ.2.1 33 5 := by rw [hFe.2.2.1 _ (by decide)]; exact hk2
          have hl3 : σ'.2.1 33 6 = σ.2.1 33 6 := by rw [hFe.2.2.1 _ (by decide)]; exact hl2
          have h203 : σ'.1 33 20 = nI (s + 1) := by rw [hFe.2.1 _ (by decide)]; exact (hit hok).1
          have hrd3 : ∀ j, j < s + 1 → ((mLn tx.2 (min tx.1 47)) (gPos (mLn tx.2 (min tx.1 47)) j)).1 = true ∧ σ'.2.1 33 10 (2 * j) = nI ((mLn tx.2 (min tx.1 47)) (gPos (mLn tx.2 (min tx.1 47)) j)).2.2.1 ∧ σ'.2.1 33 10 (2 * j + 1) = nI ((mLn tx.2 (min tx.1 47)) (gPos (mLn tx.2 (min tx.1 47)) j)).2.2.2 := fun j hj => by rw [hFe.2.2.1 10 (by decide)]; exact hrd2 hok j hj
          refine go_if_eq 55 (pc := 48) dX12_mouths_48 (by decide) (fun h48 => ?_) (fun h48 => ?_)
          · rw [zb_0d] at h48
            rw [if_neg h48] at hK3 hR1
            have kT := trivial
            refine go_iconst (nI 0) (pc := 55) dX12_mouths_55 (by decide) ?_
            refine go_istore_n (i := 3) (pc := 56) dX12_mouths_56 rfl (by decide) ?_
            refine go_goto 29 (pc := 57) dX12_mouths_57 (by decide) ?_
            first
              | (have _ := kM
                 refine go_drop [0, 1, 3] rfl ?_
                 exact ih (s + 1) _ (by omega) hR1 hK3 h203 hrd3 h43 hk3 hl3 hT3 hF3)
              | (have _ := kF
                 refine go_iload_n (i := 3) (pc := 29) dX12_mouths_29 rfl rfl ?_
                 refine go_if_eq 60 (pc := 30) dX12_mouths_30 (by decide) (fun h30b => ?_) (fun h30b => absurd rfl h30b)
                 refine go_drop [0, 1, 2] rfl ?_
                 refine go_at rfl (show _ = [(0, .ref (zA E 33 0)), (1, .int (nI tx.1)), (2, .int (zb (itR (mLn tx.2 (min tx.1 47)) tx.2 tx.1 (min tx.1 47) tw.1).1))] by rw [hR1, h39]; rfl) rfl ?_
                 exact fin _ (by rw [hR1]; exact hK2) (fun h => by rw [hR1] at h; cases h) h42 hk2 hl2 hT2 hF2)
              | (have _ := kT
                 refine go_iload_n (i := 3) (pc := 29) dX12_mouths_29 rfl rfl ?_
                 refine go_if_eq 60 (pc := 30) dX12_mouths_30 (by decide) (fun h30b => ?_) (fun h30b => absurd rfl h30b)
                 refine go_drop [0, 1, 2] rfl ?_
                 refine go_at rfl (show _ = [(0, .ref (zA E 33 0)), (1, .int (nI tx.1)), (2, .int (zb (itR (mLn tx.2 (min tx.1 47)) tx.2 tx.1 (min tx.1 47) tw.1).1))] by rw [hR1, hok]; rfl) rfl ?_
                 exact fin _ (by rw [hR1]; exact hK3) (fun _ => by rw [hR1]; exact ⟨h203, hrd3⟩) h43 hk3 hl3 hT3 hF3)
          · rw [zb_0d] at h48
            have h48 := Decidable.not_not.mp h48
            rw [if_pos h48] at hK3 hR1
            have kM := trivial
            refine go_iconst (nI 1) (pc := 51) dX12_mouths_51 (by decide) ?_
            refine go_goto 56 (pc := 52) dX12_mouths_52 (by decide) ?_
            refine go_istore_n (i := 3) (pc := 56) dX12_mouths_56 rfl (by decide) ?_
            refine go_goto 29 (pc := 57) dX12_mouths_57 (by decide) ?_
            first
              | (have _ := kM
                 refine go_drop [0, 1, 3] rfl ?_
                 exact ih (s + 1) _ (by omega) hR1 hK3 h203 hrd3 h43 hk3 hl3 hT3 hF3)
              | (have _ := kF
                 refine go_iload_n (i := 3) (pc := 29) dX12_mouths_29 rfl rfl ?_
                 refine go_if_eq 60 (pc := 30) dX12_mouths_30 (by decide) (fun h30b => ?_) (fun h30b => absurd rfl h30b)
                 refine go_drop [0, 1, 2] rfl ?_
                 refine go_at rfl (show _ = [(0, .ref (zA E 33 0)), (1, .int (nI tx.1)), (2, .int (zb (itR (mLn tx.2 (min tx.1 47)) tx.2 tx.1 (min tx.1 47) tw.1).1))] by rw [hR1, h39]; rfl) rfl ?_
                 exact fin _ (by rw [hR1]; exact hK2) (fun h => by rw [hR1] at h; cases h) h42 hk2 hl2 hT2 hF2)
              | (have _ := kT
                 refine go_iload_n (i := 3) (pc := 29) dX12_mouths_29 rfl rfl ?_
                 refine go_if_eq 60 (pc := 30) dX12_mouths_30 (by decide) (fun h30b => ?_) (fun h30b => absurd rfl h30b)
                 refine go_drop [0, 1, 2] rfl ?_
                 refine go_at rfl (show _ = [(0, .ref (zA E 33 0)), (1, .int (nI tx.1)), (2, .int (zb (itR (mLn tx.2 (min tx.1 47)) tx.2 tx.1 (min tx.1 47) tw.1).1))] by rw [hR1, hok]; rfl) rfl ?_
                 exact fin _ (by rw [hR1]; exact hK3) (fun _ => by rw [hR1]; exact ⟨h203, hrd3⟩) h43 hk3 hl3 hT3 hF3)
  refine go_aload_n (i := 0) (pc := 0) dX12_mouths_0 rfl rfl ?_
  refine go_iconst (nI 0) (pc := 1) dX12_mouths_1 (by decide) ?_
  refine go_puti fp_X12_97 (pc := 2) dX12_mouths_2 (by rfl) rfl rfl ?_
  have hF0 : Fr9 [0] [] σ (uS σ 33 0 (nI 0)) := Fr9.rf.uS (by simp)
  refine go_aload_n (i := 0) (pc := 5) dX12_mouths_5 rfl rfl ?_
  refine go_bipush (nI 47) (pc := 6) dX12_mouths_6 (by decide) ?_
  refine go_callV ml_X12_166 mt_X12_begins (pc := 8) dX12_mouths_8 (c_X12_begins (most := 47) (hT.fr hF0 (by decide) (by decide)) (by decide)) (by rfl) rfl (by rfl) (by decide) (by decide) rfl rfl (Nat.le_of_ble_eq_true rfl) (fun r σ' hp => ?_)
  obtain ⟨rfl, hK, hTt, -, hFb⟩ := hp
  dsimp only [zRet]
  have hFx : Fr9 [0, 5, 15, 16, 17, 18, 20] [5, 6, 10] σ σ' := (hF0.mono (by simp) (by simp)).tr (hFb.mono (by simp) (by simp))
  have h4b : σ'.1 33 5 = nI tw.1 := by rw [hFb.2.1 _ (by decide), hF0.2.1 _ (by decide)]; exact hX.2.1
  refine go_istore_n (i := 1) (pc := 11) dX12_mouths_11 rfl (by decide) ?_
  refine go_aload_n (i := 0) (pc := 12) dX12_mouths_12 rfl rfl ?_
  refine go_iconst (nI 0) (pc := 13) dX12_mouths_13 (by decide) ?_
  refine go_puti fp_X12_169 (pc := 14) dX12_mouths_14 (by rfl) rfl rfl ?_
  have hF1 : Fr9 [0, 5, 15, 16, 17, 18, 20] [5, 6, 10] σ (uS σ' 33 20 (nI 0)) := hFx.uS (by simp)
  have hK1 : Cur (uS σ' 33 20 (nI 0)) tx.2 0 (min tx.1 47) := hK.fr (fs := [20]) (js := []) (Fr9.rf.uS (by simp)) (by decide) (by decide) (by decide)
  have hT1 : TapeIs (uS σ' 33 20 (nI 0)) 0 tx.2 := hTt.fr (fs := [20]) (js := []) (Fr9.rf.uS (by simp)) (by decide) (by decide)
  have h201 : (uS σ' 33 20 (nI 0)).1 33 20 = nI 0 := uS_s _ _ _ _
  have h41 : (uS σ' 33 20 (nI 0)).1 33 5 = nI tw.1 := by rw [uS_1, if_neg (by decide)]; exact h4b
  have hk1 : (uS σ' 33 20 (nI 0)).2.1 33 5 = σ.2.1 33 5 := by rw [uS_2, hFb.2.2.1 _ (by decide), hF0.2.2.1 _ (by decide)]
  have hl1 : (uS σ' 33 20 (nI 0)).2.1 33 6 = σ.2.1 33 6 := by rw [uS_2, hFb.2.2.1 _ (by decide), hF0.2.2.1 _ (by decide)]
  generalize uS σ' 33 20 (nI 0) = τ1 at hF1 hK1 hT1 h201 h41 hk1 hl1 ⊢
  refine go_iconst (nI 1) (pc := 17) dX12_mouths_17 (by decide) ?_
  refine go_istore_n (i := 2) (pc := 18) dX12_mouths_18 rfl (by decide) ?_
  refine go_iload_n (i := 1) (pc := 19) dX12_mouths_19 rfl rfl ?_
  refine go_if_le 27 (pc := 20) dX12_mouths_20 (by decide) (fun h20 => ?_) (fun h20 => ?_)
  · first | rw [zb_0d] at h20 | rw [zn_le0 (by omega)] at h20 | rw [zi_le0] at h20
    have hL0 : tx.1 = 0 := by omega
    have hR0 : (itR (mLn tx.2 (min tx.1 47)) tx.2 tx.1 (min tx.1 47) tw.1) = (true, 0, 0) := if_pos hL0
    refine go_iconst (nI 0) (pc := 27) dX12_mouths_27 (by decide) ?_
    refine go_istore_n (i := 3) (pc := 28) dX12_mouths_28 rfl (by decide) ?_
    first
      | (have _ := hR0
         refine go_iload_n (i := 3) (pc := 29) dX12_mouths_29 rfl rfl ?_
         refine go_if_eq 60 (pc := 30) dX12_mouths_30 (by decide) (fun h30b => ?_) (fun h30b => absurd rfl h30b)
         refine go_drop [0, 1, 2] rfl ?_
         refine go_at rfl (show _ = [(0, .ref (zA E 33 0)), (1, .int (nI tx.1)), (2, .int (zb (itR (mLn tx.2 (min tx.1 47)) tx.2 tx.1 (min tx.1 47) tw.1).1))] by rw [hR0]; rfl) rfl ?_
         exact fin τ1 (by rw [hR0]; exact hK1) (fun _ => by rw [hR0]; exact ⟨h201, fun j hj => absurd hj (Nat.not_lt_zero _)⟩) h41 hk1 hl1 hT1 hF1)
      | (refine go_drop [0, 1, 3] rfl ?_
         exact loop (8 - tw.1) 0 τ1 (by omega) (if_neg hL0) hK1 h201 (fun j hj => absurd hj (Nat.not_lt_zero _)) h41 hk1 hl1 hT1 hF1)
  · first | rw [zb_0d] at h20 | rw [zn_le0 (by omega)] at h20 | rw [zi_le0] at h20
    have hL0 : ¬ tx.1 = 0 := by omega
    refine go_iconst (nI 1) (pc := 23) dX12_mouths_23 (by decide) ?_
    refine go_goto 28 (pc := 24) dX12_mouths_24 (by decide) ?_
    refine go_istore_n (i := 3) (pc := 28) dX12_mouths_28 rfl (by decide) ?_
    first
      | (have _ := hR0
         refine go_iload_n (i := 3) (pc := 29) dX12_mouths_29 rfl rfl ?_
         refine go_if_eq 60 (pc := 30) dX12_mouths_30 (by decide) (fun h30b => ?_) (fun h30b => absurd rfl h30b)
         refine go_drop [0, 1, 2] rfl ?_
         refine go_at rfl (show _ = [(0, .ref (zA E 33 0)), (1, .int (nI tx.1)), (2, .int (zb (itR (mLn tx.2 (min tx.1 47)) tx.2 tx.1 (min tx.1 47) tw.1).1))] by rw [hR0]; rfl) rfl ?_
         exact fin τ1 (by rw [hR0]; exact hK1) (fun _ => by rw [hR0]; exact ⟨h201, fun j hj => absurd hj (Nat.not_lt_zero _)⟩) h41 hk1 hl1 hT1 hF1)
      | (refine go_drop [0, 1, 3] rfl ?_
         exact loop (8 - tw.1) 0 τ1 (by omega) (if_neg hL0) hK1 h201 (fun j hj => absurd hj (Nat.not_lt_zero _)) h41 hk1 hl1 hT1 hF1)

