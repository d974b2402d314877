theorem c_X7_read {E : zE} {σ : zT} {L : Nat} {f : Nat → Nat} (hT : TextIs σ L f) : CalM E 1 yX7_read cX7_read 4 (some .int) [.ref (zA E 3 0), .ref (zA E 1 0)] σ (fun r σ' => r = some (.int (match skyF L f with | none => nI L | some q => mF q)) ∧ (match skyF L f with | none => SkyIs σ' L (fun i => wcC (f i)) ∧ FrG [3] σ σ' | some _ => σ' = σ)) := by
  refine cal_of_go (own := RX7) rfl (by decide +kernel) (Nat.le_of_ble_eq_true rfl) ?_
  have hL := hT.2.1
  have loop2 : ∀ (i : Nat) (τ : zT), 1 ≤ L → L ≤ 20 → skyF L f = none → (∀ j, j < L → okW f j = true) → i ≤ L → τ.1 3 1 = nI L → (∀ j, j < i → τ.2.1 3 1 j = nI (f j)) → FrG [3] σ τ → GoM E 1 RX7 cX7_read 4 (some .int) (fun r σ' => r = some (.int (match skyF L f with | none => nI L | some q => mF q)) ∧ (match skyF L f with | none => SkyIs σ' L (fun i => wcC (f i)) ∧ FrG [3] σ σ' | some _ => σ' = σ)) τ 87 [(0, .ref (zA E 3 0)), (1, .ref (zA E 1 0)), (2, .int (nI i))] [] := by
    intro i τ h1 h20 hF hok
    induction hj : L - i using Nat.strongRecOn generalizing i τ with
    | ind z ih =>
      intro hi hs hr hf
      have hTt := hT.fr hf (by simp)
      refine go_iload_n (i := 2) (pc := 87) dX7_read_87 rfl rfl ?_
      refine go_aload_n (i := 0) (pc := 88) dX7_read_88 rfl rfl ?_
      refine go_geti fl_X7_15 (pc := 89) dX7_read_89 (by first | rfl | (apply zL_fi <;> first | assumption | decide) | (apply zR_fi <;> first | assumption | decide)) ?_
      rw [hs]
      refine go_icmp_ge 118 (pc := 92) dX7_read_92 (by decide) (fun h92 => ?_) (fun h92 => ?_)
      · first | rw [nI_leI (by omega) (by omega)] at h92 | rw [zi_leN (by omega)] at h92 | rw [zi_Nle (by omega)] at h92 | rw [zi_le] at h92
        have ei : i = L := by omega
        subst ei
        refine go_aload_n (i := 0) (pc := 118) dX7_read_118 rfl rfl ?_
        refine go_geti fl_X7_15 (pc := 119) dX7_read_119 (by first | rfl | (apply zL_fi <;> first | assumption | decide) | (apply zR_fi <;> first | assumption | decide)) ?_
        rw [hs]
        refine go_ireturn (pc := 122) dX7_read_122 rfl ?_
        rw [hF]
        exact ⟨rfl, ⟨h1, h20, hs, fun j hj => by have ho := of_decide_eq_true (hok j hj); have hw := skS_wc ho; rw [hw.1]; exact ⟨hr j hj, hw.2⟩⟩, hf⟩
      · first | rw [nI_leI (by omega) (by omega)] at h92 | rw [zi_leN (by omega)] at h92 | rw [zi_Nle (by omega)] at h92 | rw [zi_le] at h92
        refine go_iload_n (i := 2) (pc := 95) dX7_read_95 rfl rfl ?_
        refine go_bipush (nI 20) (pc := 96) dX7_read_96 (by decide) ?_
        refine go_icmp_ge 118 (pc := 98) dX7_read_98 (by decide) (fun h98 => ?_) (fun h98 => ?_)
        · first | rw [nI_leI (by omega) (by omega)] at h98 | rw [zi_leN (by omega)] at h98 | rw [zi_Nle (by omega)] at h98 | rw [zi_le] at h98
          exfalso
          omega
        · first | rw [nI_leI (by omega) (by omega)] at h98 | rw [zi_leN (by omega)] at h98 | rw [zi_Nle (by omega)] at h98 | rw [zi_le] at h98
          refine go_aload_n (i := 0) (pc := 101) dX7_read_101 rfl rfl ?_
          refine go_getr2 fl_X7_9 (pc := 102) dX7_read_102 (by first | rfl | (apply zL_ci <;> assumption) | (apply zR_ci <;> assumption)) (by first | rfl | (apply zL_in <;> first | assumption | decide) | (apply zR_in <;> first | assumption | decide)) (by first | rfl | (apply zL_fr0 <;> assumption) | (apply zL_fr1 <;> assumption) | (apply zR_fr0 <;> assumption) | (apply zR_fr1 <;> assumption) | (apply zR_fr2 <;> assumption) | (apply zR_fr3 <;> assumption)) ?_
          refine go_iload_n (i := 2) (pc := 105) dX7_read_105 rfl rfl ?_
          refine go_aload_n (i := 1) (pc := 106) dX7_read_106 rfl rfl ?_
          refine go_iload_n (i := 2) (pc := 107) dX7_read_107 rfl rfl ?_
          refine go_callV ml_X7_24 mt_X8_at (pc := 108) dX7_read_108 (c_X8_at hTt (by omega)) (by first | rfl | (apply zL_cq <;> assumption) | (apply zR_cq <;> assumption)) rfl (by first | rfl | (apply zL_in <;> first | assumption | decide) | (apply zR_in <;> first | assumption | decide)) (by decide) (by decide) rfl rfl (Nat.le_of_ble_eq_true rfl) (fun r σ' hp => ?_)
          obtain ⟨rfl, hσ⟩ := hp
          rw [hσ]
          clear hσ σ'
          dsimp only [zRet]
          rw [tAt_in (by omega)]
          refine go_iastore _ (pc := 111) dX7_read_111 (by first | rfl | (apply zL_ar1 <;> assumption) | (apply zL_ar2 <;> assumption) | (apply zR_ar1 <;> assumption) | (apply zR_ar2 <;> assumption) | (apply zR_ar3 <;> assumption) | (apply zR_ar4 <;> assumption)) (by first | rfl | (apply zL_jn <;> first | assumption | decide) | (apply zR_jn <;> first | assumption | decide)) rfl (by first | assumption | omega) ?_
          refine go_iincN (pc := 112) dX7_read_112 rfl (by decide) ?_
          refine go_goto 87 (pc := 115) dX7_read_115 (by decide) ?_
          exact ih (L - (i + 1)) (by omega) (i + 1) _ rfl (by omega) (by rw [uA_1]; exact hs) (fun j hj => by rw [uA_s, upd_at]; split; rename_i e; rw [e]; exact hr j (by omega)) (hf.uA (by simp))
  have loop : ∀ i : Nat, 0 < L → i ≤ min L 20 → rlU (okW f) i = i → GoM E 1 RX7 cX7_read 4 (some .int) (fun r σ' => r = some (.int (match skyF L f with | none => nI L | some q => mF q)) ∧ (match skyF L f with | none => SkyIs σ' L (fun i => wcC (f i)) ∧ FrG [3] σ σ' | some _ => σ' = σ)) σ 11 [(0, .ref (zA E 3 0)), (1, .ref (zA E 1 0)), (2, .int (nI i))] [] := by
    intro i h0
    induction hj : min L 20 - i using Nat.strongRecOn generalizing i with
    | ind z ih =>
      intro hi hr
      refine go_iload_n (i := 2) (pc := 11) dX7_read_11 rfl rfl ?_
      refine go_aload_n (i := 1) (pc := 12) dX7_read_12 rfl rfl ?_
      refine go_callV ml_X7_19 mt_X8_size (pc := 13) dX7_read_13 (c_X8_size hT) (by first | rfl | (apply zL_cq <;> assumption) | (apply zR_cq <;> assumption)) rfl (by first | rfl | (apply zL_in <;> first | assumption | decide) | (apply zR_in <;> first | assumption | decide)) (by decide) (by decide) rfl rfl (Nat.le_of_ble_eq_true rfl) (fun r σ' hp => ?_)
      obtain ⟨rfl, hσ⟩ := hp
      rw [hσ]
      clear hσ σ'
      dsimp only [zRet]
      refine go_icmp_ge 65 (pc := 16) dX7_read_16 (by decide) (fun h16 => ?_) (fun h16 => ?_)
      · first | rw [nI_leI (by omega) (by omega)] at h16 | rw [zi_leN (by omega)] at h16 | rw [zi_Nle (by omega)] at h16 | rw [zi_le] at h16
        refine go_aload_n (i := 1) (pc := 65) dX7_read_65 rfl rfl ?_
        refine go_callV ml_X7_19 mt_X8_size (pc := 66) dX7_read_66 (c_X8_size hT) (by first | rfl | (apply zL_cq <;> assumption) | (apply zR_cq <;> assumption)) rfl (by first | rfl | (apply zL_in <;> first | assumption | decide) | (apply zR_in <;> first | assumption | decide)) (by decide) (by decide) rfl rfl (Nat.le_of_ble_eq_true rfl) (fun r σ' hp => ?_)
        obtain ⟨rfl, hσ⟩ := hp
        rw [hσ]
        clear hσ σ'
        dsimp only [zRet]
        refine go_bipush (nI 20) (pc := 69) dX7_read_69 (by decide) ?_
        refine go_icmp_le 77 (pc := 71) dX7_read_71 (by decide) (fun h71 => ?_) (fun h71 => ?_)
        · first | rw [nI_leI (by omega) (by omega)] at h71 | rw [zi_leN (by omega)] at h71 | rw [zi_Nle (by omega)] at h71 | rw [zi_le] at h71
          refine go_aload_n (i := 0) (pc := 77) dX7_read_77 rfl rfl ?_
          refine go_aload_n (i := 1) (pc := 78) dX7_read_78 rfl rfl ?_
          refine go_callV ml_X7_19 mt_X8_size (pc := 79) dX7_read_79 (c_X8_size hT) (by first | rfl | (apply zL_cq <;> assumption) | (apply zR_cq <;> assumption)) rfl (by first | rfl | (apply zL_in <;> first | assumption | decide) | (apply zR_in <;> first | assumption | decide)) (by decide) (by decide) rfl rfl (Nat.le_of_ble_eq_true rfl) (fun r σ' hp => ?_)
          obtain ⟨rfl, hσ⟩ := hp
          rw [hσ]
          clear hσ σ'
          dsimp only [zRet]
          refine go_puti fp_X7_15 (pc := 82) dX7_read_82 (by first | rfl | (apply zL_fi <;> first | assumption | decide) | (apply zR_fi <;> first | assumption | decide)) rfl rfl ?_
          refine go_iconst (nI 0) (pc := 85) dX7_read_85 (by decide) ?_
          refine go_istore_n (i := 2) (pc := 86) dX7_read_86 rfl (by decide) ?_
          have ei : i = min L 20 := by omega
          have eL : i = L := by omega
          have hF : skyF L f = none := by unfold skyF flt; rw [← ei, hr, if_neg (by omega)]
          exact loop2 0 _ (by omega) (by omega) hF (fun j hj => rlU_all hr j (by omega)) (by omega) (uS_s _ _ _ _) (fun j hj => absurd hj (by omega)) (FrG.rf.uS (by simp))
        · first | rw [nI_leI (by omega) (by omega)] at h71 | rw [zi_leN (by omega)] at h71 | rw [zi_Nle (by omega)] at h71 | rw [zi_le] at h71
          refine go_bipush (-21) (pc := 74) dX7_read_74 (by decide) ?_
          refine go_ireturn (pc := 76) dX7_read_76 rfl ?_
          have ei : i = min L 20 := by omega
          have hF : skyF L f = some 20 := by unfold skyF flt; rw [← ei, hr, if_pos (by omega), show i = 20 by omega]
          rw [hF]
          exact ⟨by show _ = some (Value.int (mF 20)); rw [show mF 20 = (-21 : Int32) from by decide], rfl⟩
      · first | rw [nI_leI (by omega) (by omega)] at h16 | rw [zi_leN (by omega)] at h16 | rw [zi_Nle (by omega)] at h16 | rw [zi_le] at h16
        refine go_iload_n (i := 2) (pc := 19) dX7_read_19 rfl rfl ?_
        refine go_bipush (nI 20) (pc := 20) dX7_read_20 (by decide) ?_
        refine go_icmp_ge 65 (pc := 22) dX7_read_22 (by decide) (fun h22 => ?_) (fun h22 => ?_)
        · first | rw [nI_leI (by omega) (by omega)] at h22 | rw [zi_leN (by omega)] at h22 | rw [zi_Nle (by omega)] at h22 | rw [zi_le] at h22
          refine go_aload_n (i := 1) (pc := 65) dX7_read_65 rfl rfl ?_
          refine go_callV ml_X7_19 mt_X8_size (pc := 66) dX7_read_66 (c_X8_size hT) (by first | rfl | (apply zL_cq <;> assumption) | (apply zR_cq <;> assumption)) rfl (by first | rfl | (apply zL_in <;> first | assumption | decide) | (apply zR_in <;> first | assumption | decide)) (by decide) (by decide) rfl rfl (Nat.le_of_ble_eq_true rfl) (fun r σ' hp => ?_)
          obtain ⟨rfl, hσ⟩ := hp
          rw [hσ]
          clear hσ σ'
          dsimp only [zRet]
          refine go_bipush (nI 20) (pc := 69) dX7_read_69 (by decide) ?_
          refine go_icmp_le 77 (pc := 71) dX7_read_71 (by decide) (fun h71 => ?_) (fun h71 => ?_)
          · first | rw [nI_leI (by omega) (by omega)] at h71 | rw [zi_leN (by omega)] at h71 | rw [zi_Nle (by omega)] at h71 | rw [zi_le] at h71
            refine go_aload_n (i := 0) (pc := 77) dX7_read_77 rfl rfl ?_
            refine go_aload_n (i := 1) (pc := 78) dX7_read_78 rfl rfl ?_
            refine go_callV ml_X7_19 mt_X8_size (pc := 79) dX7_read_79 (c_X8_size hT) (by first | rfl | (apply zL_cq <;> assumption) | (apply zR_cq <;> assumption)) rfl (by first | rfl | (apply zL_in <;> first | assumption | decide) | (apply zR_in <;> first | assumption | decide)) (by decide) (by decide) rfl rfl (Nat.le_of_ble_eq_true rfl) (fun r σ' hp => ?_)
            obtain ⟨rfl, hσ⟩ := hp
            rw [hσ]
            clear hσ σ'
            dsimp only [zRet]
            refine go_puti fp_X7_15 (pc := 82) dX7_read_82 (by first | rfl | (apply zL_fi <;> first | assumption | decide) | (apply zR_fi <;> first | assumption | decide)) rfl rfl ?_
            refine go_iconst (nI 0) (pc := 85) dX7_read_85 (by decide) ?_
            refine go_istore_n (i := 2) (pc := 86) dX7_read_86 rfl (by decide) ?_
            have ei : i = min L 20 := by omega
            have eL : i = L := by omega
            have hF : skyF L f = none := by unfold skyF flt; rw [← ei, hr, if_neg (by omega)]
            exact loop2 0 _ (by omega) (by omega) hF (fun j hj => rlU_all hr j (by omega)) (by omega) (uS_s _ _ _ _) (fun j hj => absurd hj (by omega)) (FrG.rf.uS (by simp))
          · first | rw [nI_leI (by omega) (by omega)] at h71 | rw [zi_leN (by omega)] at h71 | rw [zi_Nle (by omega)] at h71 | rw [zi_le] at h71
            refine go_bipush (-21) (pc := 74) dX7_read_74 (by decide) ?_
            refine go_ireturn (pc := 76) dX7_read_76 rfl ?_
            have ei : i = min L 20 := by omega
            have hF : skyF L f = some 20 := by unfold skyF flt; rw [← ei, hr, if_pos (by omega), show i = 20 by omega]
            rw [hF]
            exact ⟨by show _ = some (Value.int (mF 20)); rw [show mF 20 = (-21 : Int32) from by decide], rfl⟩
        · first | rw [nI_leI (by omega) (by omega)] at h22 | rw [zi_leN (by omega)] at h22 | rw [zi_Nle (by omega)] at h22 | rw [zi_le] at h22
          refine go_aload_n (i := 1) (pc := 25) dX7_read_25 rfl rfl ?_
          refine go_iload_n (i := 2) (pc := 26) dX7_read_26 rfl rfl ?_
          refine go_callV ml_X7_24 mt_X8_at (pc := 27) dX7_read_27 (c_X8_at hT (by omega)) (by first | rfl | (apply zL_cq <;> assumption) | (apply zR_cq <;> assumption)) rfl (by first | rfl | (apply zL_in <;> first | assumption | decide) | (apply zR_in <;> first | assumption | decide)) (by decide) (by decide) rfl rfl (Nat.le_of_ble_eq_true rfl) (fun r σ' hp => ?_)
          obtain ⟨rfl, hσ⟩ := hp
          rw [hσ]
          clear hσ σ'
          dsimp only [zRet]
          rw [tAt_in (by omega)]
          have hv := (hT.2.2 i (by omega)).2
          refine go_istore_n (i := 3) (pc := 30) dX7_read_30 rfl (by decide) ?_
          refine go_iload_n (i := 3) (pc := 31) dX7_read_31 rfl rfl ?_
          refine go_bipush (nI 102) (pc := 32) dX7_read_32 (by decide) ?_
          refine go_icmp_eq 59 (pc := 34) dX7_read_34 (by decide) (fun h34 => ?_) (fun h34 => ?_)
          · first | rw [nI_eq (by omega) (by omega)] at h34 | rw [zi_eqN (by omega)] at h34 | rw [zi_Neq (by omega)] at h34 | rw [zi_eq] at h34
            refine go_iincN (pc := 59) dX7_read_59 rfl (by decide) ?_
            refine go_goto 11 (pc := 62) dX7_read_62 (by decide) ?_
            refine go_drop [0, 1, 2] rfl ?_
            have ho : okW f i = true := decide_eq_true (by omega)
            exact ih (min L 20 - (i + 1)) (by omega) (i + 1) rfl (by omega) (rlU_s hr ho)
          · first | rw [nI_eq (by omega) (by omega)] at h34 | rw [zi_eqN (by omega)] at h34 | rw [zi_Neq (by omega)] at h34 | rw [zi_eq] at h34
            refine go_iload_n (i := 3) (pc := 37) dX7_read_37 rfl rfl ?_
            refine go_bipush (nI 100) (pc := 38) dX7_read_38 (by decide) ?_
            refine go_icmp_eq 59 (pc := 40) dX7_read_40 (by decide) (fun h40 => ?_) (fun h40 => ?_)
            · first | rw [nI_eq (by omega) (by omega)] at h40 | rw [zi_eqN (by omega)] at h40 | rw [zi_Neq (by omega)] at h40 | rw [zi_eq] at h40
              refine go_iincN (pc := 59) dX7_read_59 rfl (by decide) ?_
              refine go_goto 11 (pc := 62) dX7_read_62 (by decide) ?_
              refine go_drop [0, 1, 2] rfl ?_
              have ho : okW f i = true := decide_eq_true (by omega)
              exact ih (min L 20 - (i + 1)) (by omega) (i + 1) rfl (by omega) (rlU_s hr ho)
            · first | rw [nI_eq (by omega) (by omega)] at h40 | rw [zi_eqN (by omega)] at h40 | rw [zi_Neq (by omega)] at h40 | rw [zi_eq] at h40
              refine go_iload_n (i := 3) (pc := 43) dX7_read_43 rfl rfl ?_
              refine go_bipush (nI 114) (pc := 44) dX7_read_44 (by decide) ?_
              refine go_icmp_eq 59 (pc := 46) dX7_read_46 (by decide) (fun h46 => ?_) (fun h46 => ?_)
              · first | rw [nI_eq (by omega) (by omega)] at h46 | rw [zi_eqN (by omega)] at h46 | rw [zi_Neq (by omega)] at h46 | rw [zi_eq] at h46
                refine go_iincN (pc := 59) dX7_read_59 rfl (by decide) ?_
                refine go_goto 11 (pc := 62) dX7_read_62 (by decide) ?_
                refine go_drop [0, 1, 2] rfl ?_
                have ho : okW f i = true := decide_eq_true (by omega)
                exact ih (min L 20 - (i + 1)) (by omega) (i + 1) rfl (by omega) (rlU_s hr ho)
              · first | rw [nI_eq (by omega) (by omega)] at h46 | rw [zi_eqN (by omega)] at h46 | rw [zi_Neq (by omega)] at h46 | rw [zi_eq] at h46
                refine go_iload_n (i := 3) (pc := 49) dX7_read_49 rfl rfl ?_
                refine go_bipush (nI 97) (pc := 50) dX7_read_50 (by decide) ?_
                refine go_icmp_eq 59 (pc := 52) dX7_read_52 (by decide) (fun h52 => ?_) (fun h52 => ?_)
                · first | rw [nI_eq (by omega) (by omega)] at h52 | rw [zi_eqN (by omega)] at h52 | rw [zi_Neq (by omega)] at h52 | rw [zi_eq] at h52
                  refine go_iincN (pc := 59) dX7_read_59 rfl (by decide) ?_
                  refine go_goto 11 (pc := 62) dX7_read_62 (by decide) ?_
                  refine go_drop [0, 1, 2] rfl ?_
                  have ho : okW f i = true := decide_eq_true (by omega)
                  exact ih (min L 20 - (i + 1)) (by omega) (i + 1) rfl (by omega) (rlU_s hr ho)
                · first | rw [nI_eq (by omega) (by omega)] at h52 | rw [zi_eqN (by omega)] at h52 | rw [zi_Neq (by omega)] at h52 | rw [zi_eq] at h52
                  refine go_iconst (-1) (pc := 55) dX7_read_55 (by decide) ?_
                  refine go_iload_n (i := 2) (pc := 56) dX7_read_56 rfl rfl ?_
                  first | with_reducible refine go_isubN (pc := 57) dX7_read_57 (by omega) ?_ | refine go_isub (pc := 57) dX7_read_57 ?_
                  refine go_ireturn (pc := 58) dX7_read_58 rfl ?_
                  have ho : okW f i = false := decide_eq_false (by omega)
                  have hq := rlU_badN hr ho (show i < min L 20 by omega)
                  have hF : skyF L f = some i := by unfold skyF flt; rw [hq, if_pos (by omega)]
                  rw [hF]
                  exact ⟨rfl, rfl⟩
  refine go_aload_n (i := 1) (pc := 0) dX7_read_0 rfl rfl ?_
  refine go_callV ml_X7_19 mt_X8_size (pc := 1) dX7_read_1 (c_X8_size hT) (by first | rfl | (apply zL_cq <;> assumption) | (apply zR_cq <;> assumption)) rfl (by first | rfl | (apply zL_in <;> first | assumption | decide) | (apply zR_in <;> first | assumption | decide)) (by decide) (by decide) rfl rfl (Nat.le_of_ble_eq_true rfl) (fun r σ' hp => ?_)
  obtain ⟨rfl, hσ⟩ := hp
  rw [hσ]
  clear hσ σ'
  dsimp only [zRet]
  refine go_if_ne 9 (pc := 4) dX7_read_4 (by decide) (fun h4 => ?_) (fun h4 => ?_)
  · first | rw [zb_0d] at h4 | rw [zn_eq0 (by omega)] at h4 | rw [zi_eq0] at h4
    refine go_iconst (nI 0) (pc := 9) dX7_read_9 (by decide) ?_
    refine go_istore_n (i := 2) (pc := 10) dX7_read_10 rfl (by decide) ?_
    exact loop 0 (by omega) (by omega) rfl
  · first | rw [zb_0d] at h4 | rw [zn_eq0 (by omega)] at h4 | rw [zi_eq0] at h4
    refine go_iconst (-1) (pc := 7) dX7_read_7 (by decide) ?_
    refine go_ireturn (pc := 8) dX7_read_8 rfl ?_
    have e : L = 0 := by omega
    subst e
    have hF : skyF 0 f = some 0 := rfl
    rw [hF]
    exact ⟨by show _ = some (Value.int (mF 0)); rw [show mF 0 = (-1 : Int32) from by decide], rfl⟩

theorem c_X11_weather {E : zE} {σ : zT} {tx : Nat × (Nat → Nat)} {bd : Nat × (Nat → Nat) × (Nat → Nat)} {sk : Nat × (Nat → Nat)} {tw : Nat × (Nat → Nat) × (Nat → Nat)} {xs : List Nat} {ld : Nat × (Nat → Nat)} {pa sh : Nat × (Nat → Nat → Nat)} {ru : Nat × (Nat → Nat) × (Nat → Nat)} {to : Nat × (Nat → Int64)} (hC : ClsIs σ tx bd sk tw xs ld pa sh ru to) : CalM E 4 yX11_weather cX11_weather 2 (some .int) [.ref (zA E 0 0)] σ (fun r σ' => r = some (.int (match skyF tx.1 tx.2 with | none => nI tx.1 | some q => mF q)) ∧ ClsIs σ' (0, tx.2) bd (match skyF tx.1 tx.2 with | none => (tx.1, fun i => wcC (tx.2 i)) | some _ => sk) tw xs ld pa sh ru to ∧ Fr33 σ σ') := by
  refine cal_of_go (own := RX11) rfl (by decide +kernel) (Nat.le_of_ble_eq_true rfl) ?_
  have hL := hC.2.2.2.2.2.1
  have hn := hL.b
  have hok := hL.1
  have hB0 := hC.2.2.1
  have hnc := hB0.1
  have hT := hC.2.1
  refine go_aload_n (i := 0) (pc := 0) dX11_weather_0 rfl rfl ?_
  refine go_getr2 fl_X11_26 (pc := 1) dX11_weather_1 (by first | rfl | (apply zL_ci <;> assumption) | (apply zR_ci <;> assumption)) (by first | rfl | (apply zL_in <;> first | assumption | decide) | (apply zR_in <;> first | assumption | decide)) (by first | rfl | (apply zL_fr0 <;> assumption) | (apply zL_fr1 <;> assumption) | (apply zR_fr0 <;> assumption) | (apply zR_fr1 <;> assumption) | (apply zR_fr2 <;> assumption) | (apply zR_fr3 <;> assumption)) ?_
  refine go_aload_n (i := 0) (pc := 4) dX11_weather_4 rfl rfl ?_
  refine go_getr2 fl_X11_10 (pc := 5) dX11_weather_5 (by first | rfl | (apply zL_ci <;> assumption) | (apply zR_ci <;> assumption)) (by first | rfl | (apply zL_in <;> first | assumption | decide) | (apply zR_in <;> first | assumption | decide)) (by first | rfl | (apply zL_fr0 <;> assumption) | (apply zL_fr1 <;> assumption) | (apply zR_fr0 <;> assumption) | (apply zR_fr1 <;> assumption) | (apply zR_fr2 <;> assumption) | (apply zR_fr3 <;> assumption)) ?_
  refine go_callV ml_X11_141 mt_X7_read (pc := 8) dX11_weather_8 (c_X7_read hT) (by first | rfl | (apply zL_cq <;> assumption) | (apply zR_cq <;> assumption)) rfl (by first | rfl | (apply zL_in <;> first | assumption | decide) | (apply zR_in <;> first | assumption | decide)) (by decide) (by decide) rfl rfl (Nat.le_of_ble_eq_true rfl) (fun r σ' hp => ?_)
  obtain ⟨rfl, hp⟩ := hp
  dsimp only [zRet]
  refine go_istore_n (i := 1) (pc := 11) dX11_weather_11 rfl (by decide) ?_
  refine go_aload_n (i := 0) (pc := 12) dX11_weather_12 rfl rfl ?_
  refine go_getr2 fl_X11_10 (pc := 13) dX11_weather_13 (by first | rfl | (apply zL_ci <;> assumption) | (apply zR_ci <;> assumption)) (by first | rfl | (apply zL_in <;> first | assumption | decide) | (apply zR_in <;> first | assumption | decide)) (by first | rfl | (apply zL_fr0 <;> assumption) | (apply zL_fr1 <;> assumption) | (apply zR_fr0 <;> assumption) | (apply zR_fr1 <;> assumption) | (apply zR_fr2 <;> assumption) | (apply zR_fr3 <;> assumption)) ?_
  refine go_callV ml_X11_126 mt_X8_clear (pc := 16) dX11_weather_16 (c_X8_clear) (by first | rfl | (apply zL_cq <;> assumption) | (apply zR_cq <;> assumption)) rfl (by first | rfl | (apply zL_in <;> first | assumption | decide) | (apply zR_in <;> first | assumption | decide)) (by decide) (by decide) rfl rfl (Nat.le_of_ble_eq_true rfl) (fun r σ' hp => ?_)
  obtain ⟨rfl, rfl⟩ := hp
  dsimp only [zRet]
  refine go_iload_n (i := 1) (pc := 19) dX11_weather_19 rfl rfl ?_
  refine go_ireturn (pc := 20) dX11_weather_20 rfl ?_
  have hft : ∀ τ : zT, FrG [1] τ (uS τ 1 1 (nI 0)) := fun τ => FrG.rf.uS (by simp)
  cases hF : skyF tx.1 tx.2 with
  | none =>
    rw [hF] at hp
    exact ⟨rfl, (hC.setS (sk' := (tx.1, fun i => wcC (tx.2 i))) hp.2 hp.1).noT, (Fr33.of hp.2 (by simp)).tr (Fr33.of (hft _) (by simp))⟩
  | some q =>
    rw [hF] at hp
    dsimp only at hp
    subst hp
    exact ⟨rfl, hC.noT, Fr33.of (hft _) (by simp)⟩

def bOK (pl s v : Nat) : Bool := if pl = 2 then decide (v = 59) else decide (s < 8) && (if pl = 0 then decide (48 ≤ v ∧ v ≤ 52) else decide (49 ≤ v ∧ v ≤ 57))

theorem c_X0_readSign {E : zE} {σ : zT} {v pl s : Nat} (hv : v < 256) (hpl : pl < 3) (hs : s < 1000) : CalM E 0 yX0_readSign cX0_readSign 4 (some .boolean) [.ref (zA E 2 0), .int (nI v), .int (nI pl), .int (nI s)] σ (fun r σ' => r = some (.int (zb (bOK pl s v))) ∧ σ'.1 = σ.1 ∧ FrG [2] σ σ' ∧ (∀ i, i ≠ s ∨ pl ≠ 0 → σ'.2.1 2 1 i = σ.2.1 2 1 i) ∧ (∀ i, i ≠ s ∨ pl ≠ 1 → σ'.2.1 2 2 i = σ.2.1 2 2 i) ∧ (pl = 0 → bOK pl s v = true → σ'.2.1 2 1 s = nI (v - 48)) ∧ (pl = 1 → bOK pl s v = true → σ'.2.1 2 2 s = nI (v - 48))) := by
  refine cal_of_go (own := RX0) rfl (by decide +kernel) (Nat.le_of_ble_eq_true rfl) ?_
  refine go_iload_n (i := 2) (pc := 0) dX0_readSign_0 rfl rfl ?_
  refine go_iconst (nI 2) (pc := 1) dX0_readSign_1 (by decide) ?_
  refine go_icmp_ne 17 (pc := 2) dX0_readSign_2 (by decide) (fun h2 => ?_) (fun h2 => ?_)
  · first | rw [nI_eq (by omega) (by omega)] at h2 | rw [zi_eqN (by omega)] at h2 | rw [zi_Neq (by omega)] at h2 | rw [zi_eq] at h2
    refine go_iload_n (i := 3) (pc := 17) dX0_readSign_17 rfl rfl ?_
    refine go_if_lt 27 (pc := 18) dX0_readSign_18 (by decide) (fun h18 => ?_) (fun h18 => ?_)
    · first | rw [zb_0d] at h18 | rw [zn_lt0 (by omega)] at h18 | rw [zi_lt0] at h18
      exact h18.elim
    · first | rw [zb_0d] at h18 | rw [zn_lt0 (by omega)] at h18 | rw [zi_lt0] at h18
      refine go_iload_n (i := 3) (pc := 21) dX0_readSign_21 rfl rfl ?_
      refine go_bipush (nI 8) (pc := 22) dX0_readSign_22 (by decide) ?_
      refine go_icmp_lt 29 (pc := 24) dX0_readSign_24 (by decide) (fun h24 => ?_) (fun h24 => ?_)
      · first | rw [nI_ltI (by omega) (by omega)] at h24 | rw [zi_ltN (by omega)] at h24 | rw [zi_Nlt (by omega)] at h24 | rw [zi_lt] at h24
        refine go_iload_n (i := 2) (pc := 29) dX0_readSign_29 rfl rfl ?_
        refine go_if_ne 61 (pc := 30) dX0_readSign_30 (by decide) (fun h30 => ?_) (fun h30 => ?_)
        · first | rw [zb_0d] at h30 | rw [zn_eq0 (by omega)] at h30 | rw [zi_eq0] at h30
          refine go_aload_n (i := 0) (pc := 61) dX0_readSign_61 rfl rfl ?_
          refine go_getr2 fl_X0_15 (pc := 62) dX0_readSign_62 (by first | rfl | (apply zL_ci <;> assumption) | (apply zR_ci <;> assumption)) (by first | rfl | (apply zL_in <;> first | assumption | decide) | (apply zR_in <;> first | assumption | decide)) (by first | rfl | (apply zL_fr0 <;> assumption) | (apply zL_fr1 <;> assumption) | (apply zR_fr0 <;> assumption) | (apply zR_fr1 <;> assumption) | (apply zR_fr2 <;> assumption) | (apply zR_fr3 <;> assumption)) ?_
          refine go_iload_n (i := 3) (pc := 65) dX0_readSign_65 rfl rfl ?_
          refine go_iload_n (i := 1) (pc := 66) dX0_readSign_66 rfl rfl ?_
          refine go_bipush (nI 48) (pc := 67) dX0_readSign_67 (by decide) ?_
          refine go_isub (pc := 69) dX0_readSign_69 ?_
          refine go_iastore s (pc := 70) dX0_readSign_70 rfl rfl rfl (by omega) ?_
          refine go_iload_n (i := 1) (pc := 71) dX0_readSign_71 rfl rfl ?_
          refine go_bipush (nI 49) (pc := 72) dX0_readSign_72 (by decide) ?_
          refine go_icmp_lt 87 (pc := 74) dX0_readSign_74 (by decide) (fun h74 => ?_) (fun h74 => ?_)
          · first | rw [nI_ltI (by omega) (by omega)] at h74 | rw [zi_ltN (by omega)] at h74 | rw [zi_Nlt (by omega)] at h74 | rw [zi_lt] at h74
            refine go_iconst (nI 0) (pc := 87) dX0_readSign_87 (by decide) ?_
            refine go_zreturn (pc := 88) dX0_readSign_88 rfl rfl ?_
            have eb : bOK pl s v = false := by unfold bOK; rw [if_neg (by omega), if_neg (by omega), decide_eq_true (by omega : s < 8), decide_eq_false (by omega)]; rfl
            exact ⟨by rw [eb]; rfl, rfl, FrG.rf.uA (by simp), fun i hi => rfl, fun i hi => by rw [uA_s, upd_at, if_neg (by omega)], fun h q => by omega, fun h q => by rw [uA_s, upd_at, if_pos rfl]; (rw [eb] at q; cases q)⟩
          · first | rw [nI_ltI (by omega) (by omega)] at h74 | rw [zi_ltN (by omega)] at h74 | rw [zi_Nlt (by omega)] at h74 | rw [zi_lt] at h74
            refine go_iload_n (i := 1) (pc := 77) dX0_readSign_77 rfl rfl ?_
            refine go_bipush (nI 57) (pc := 78) dX0_readSign_78 (by decide) ?_
            refine go_icmp_gt 87 (pc := 80) dX0_readSign_80 (by decide) (fun h80 => ?_) (fun h80 => ?_)
            · first | rw [nI_ltI (by omega) (by omega)] at h80 | rw [zi_ltN (by omega)] at h80 | rw [zi_Nlt (by omega)] at h80 | rw [zi_lt] at h80
              refine go_iconst (nI 0) (pc := 87) dX0_readSign_87 (by decide) ?_
              refine go_zreturn (pc := 88) dX0_readSign_88 rfl rfl ?_
              have eb : bOK pl s v = false := by unfold bOK; rw [if_neg (by omega), if_neg (by omega), decide_eq_true (by omega : s < 8), decide_eq_false (by omega)]; rfl
              exact ⟨by rw [eb]; rfl, rfl, FrG.rf.uA (by simp), fun i hi => rfl, fun i hi => by rw [uA_s, upd_at, if_neg (by omega)], fun h q => by omega, fun h q => by rw [uA_s, upd_at, if_pos rfl]; (rw [eb] at q; cases q)⟩
            · first | rw [nI_ltI (by omega) (by omega)] at h80 | rw [zi_ltN (by omega)] at h80 | rw [zi_Nlt (by omega)] at h80 | rw [zi_lt] at h80
              refine go_iconst (nI 1) (pc := 83) dX0_readSign_83 (by decide) ?_
              refine go_goto 88 (pc := 84) dX0_readSign_84 (by decide) ?_
              refine go_zreturn (pc := 88) dX0_readSign_88 rfl rfl ?_
              have eb : bOK pl s v = true := by unfold bOK; rw [if_neg (by omega), if_neg (by omega), decide_eq_true (by omega : s < 8), decide_eq_true (by omega)]; rfl
              exact ⟨by rw [eb]; rfl, rfl, FrG.rf.uA (by simp), fun i hi => rfl, fun i hi => by rw [uA_s, upd_at, if_neg (by omega)], fun h q => by omega, fun h q => by rw [uA_s, upd_at, if_pos rfl]; rw [pk_sub (by omega)]⟩
        · first | rw [zb_0d] at h30 | rw [zn_eq0 (by omega)] at h30 | rw [zi_eq0] at h30
          refine go_aload_n (i := 0) (pc := 33) dX0_readSign_33 rfl rfl ?_
          refine go_getr2 fl_X0_9 (pc := 34) dX0_readSign_34 (by first | rfl | (apply zL_ci <;> assumption) | (apply zR_ci <;> assumption)) (by first | rfl | (apply zL_in <;> first | assumption | decide) | (apply zR_in <;> first | assumption | decide)) (by first | rfl | (apply zL_fr0 <;> assumption) | (apply zL_fr1 <;> assumption) | (apply zR_fr0 <;> assumption) | (apply zR_fr1 <;> assumption) | (apply zR_fr2 <;> assumption) | (apply zR_fr3 <;> assumption)) ?_
          refine go_iload_n (i := 3) (pc := 37) dX0_readSign_37 rfl rfl ?_
          refine go_iload_n (i := 1) (pc := 38) dX0_readSign_38 rfl rfl ?_
          refine go_bipush (nI 48) (pc := 39) dX0_readSign_39 (by decide) ?_
          refine go_isub (pc := 41) dX0_readSign_41 ?_
          refine go_iastore s (pc := 42) dX0_readSign_42 rfl rfl rfl (by omega) ?_
          refine go_iload_n (i := 1) (pc := 43) dX0_readSign_43 rfl rfl ?_
          refine go_bipush (nI 48) (pc := 44) dX0_readSign_44 (by decide) ?_
          refine go_icmp_lt 59 (pc := 46) dX0_readSign_46 (by decide) (fun h46 => ?_) (fun h46 => ?_)
          · first | rw [nI_ltI (by omega) (by omega)] at h46 | rw [zi_ltN (by omega)] at h46 | rw [zi_Nlt (by omega)] at h46 | rw [zi_lt] at h46
            refine go_iconst (nI 0) (pc := 59) dX0_readSign_59 (by decide) ?_
            refine go_zreturn (pc := 60) dX0_readSign_60 rfl rfl ?_
            have eb : bOK pl s v = false := by unfold bOK; rw [if_neg (by omega), if_pos (by omega), decide_eq_true (by omega : s < 8), decide_eq_false (by omega)]; rfl
            exact ⟨by rw [eb]; rfl, rfl, FrG.rf.uA (by simp), fun i hi => by rw [uA_s, upd_at, if_neg (by omega)], fun i _ => rfl, fun h q => by rw [uA_s, upd_at, if_pos rfl]; (rw [eb] at q; cases q), fun h q => by omega⟩
          · first | rw [nI_ltI (by omega) (by omega)] at h46 | rw [zi_ltN (by omega)] at h46 | rw [zi_Nlt (by omega)] at h46 | rw [zi_lt] at h46
            refine go_iload_n (i := 1) (pc := 49) dX0_readSign_49 rfl rfl ?_
            refine go_bipush (nI 52) (pc := 50) dX0_readSign_50 (by decide) ?_
            refine go_icmp_gt 59 (pc := 52) dX0_readSign_52 (by decide) (fun h52 => ?_) (fun h52 => ?_)
            · first | rw [nI_ltI (by omega) (by omega)] at h52 | rw [zi_ltN (by omega)] at h52 | rw [zi_Nlt (by omega)] at h52 | rw [zi_lt] at h52
              refine go_iconst (nI 0) (pc := 59) dX0_readSign_59 (by decide) ?_
              refine go_zreturn (pc := 60) dX0_readSign_60 rfl rfl ?_
              have eb : bOK pl s v = false := by unfold bOK; rw [if_neg (by omega), if_pos (by omega), decide_eq_true (by omega : s < 8), decide_eq_false (by omega)]; rfl
              exact ⟨by rw [eb]; rfl, rfl, FrG.rf.uA (by simp), fun i hi => by rw [uA_s, upd_at, if_neg (by omega)], fun i _ => rfl, fun h q => by rw [uA_s, upd_at, if_pos rfl]; (rw [eb] at q; cases q), fun h q => by omega⟩
            · first | rw [nI_ltI (by omega) (by omega)] at h52 | rw [zi_ltN (by omega)] at h52 | rw [zi_Nlt (by omega)] at h52 | rw [zi_lt] at h52
              refine go_iconst (nI 1) (pc := 55) dX0_readSign_55 (by decide) ?_
              refine go_goto 60 (pc := 56) dX0_readSign_56 (by decide) ?_
              refine go_zreturn (pc := 60) dX0_readSign_60 rfl rfl ?_
              have eb : bOK pl s v = true := by unfold bOK; rw [if_neg (by omega), if_pos (by omega), decide_eq_true (by omega : s < 8), decide_eq_true (by omega)]; rfl
              exact ⟨by rw [eb]; rfl, rfl, FrG.rf.uA (by simp), fun i hi => by rw [uA_s, upd_at, if_neg (by omega)], fun i _ => rfl, fun h q => by rw [uA_s, upd_at, if_pos rfl]; rw [pk_sub (by omega)], fun h q => by omega⟩
      · first | rw [nI_ltI (by omega) (by omega)] at h24 | rw [zi_ltN (by omega)] at h24 | rw [zi_Nlt (by omega)] at h24 | rw [zi_lt] at h24
        refine go_iconst (nI 0) (pc := 27) dX0_readSign_27 (by decide) ?_
        refine go_zreturn (pc := 28) dX0_readSign_28 rfl rfl ?_
        have eb : bOK pl s v = false := by unfold bOK; rw [if_neg (by omega), decide_eq_false (by omega)]; rfl
        exact ⟨by rw [eb]; rfl, rfl, FrG.rf, fun i _ => rfl, fun i _ => rfl, fun h q => by first | omega | (rw [eb] at q; cases q), fun h q => by first | omega | (rw [eb] at q; cases q)⟩
  · first | rw [nI_eq (by omega) (by omega)] at h2 | rw [zi_eqN (by omega)] at h2 | rw [zi_Neq (by omega)] at h2 | rw [zi_eq] at h2
    refine go_iload_n (i := 1) (pc := 5) dX0_readSign_5 rfl rfl ?_
    refine go_bipush (nI 59) (pc := 6) dX0_readSign_6 (by decide) ?_
    refine go_icmp_ne 15 (pc := 8) dX0_readSign_8 (by decide) (fun h8 => ?_) (fun h8 => ?_)
    · first | rw [nI_eq (by omega) (by omega)] at h8 | rw [zi_eqN (by omega)] at h8 | rw [zi_Neq (by omega)] at h8 | rw [zi_eq] at h8
      refine go_iconst (nI 0) (pc := 15) dX0_readSign_15 (by decide) ?_
      refine go_zreturn (pc := 16) dX0_readSign_16 rfl rfl ?_
      have eb : bOK pl s v = false := by unfold bOK; rw [if_pos (by omega)]; exact decide_eq_false (by omega)
      exact ⟨by rw [eb]; rfl, rfl, FrG.rf, fun i _ => rfl, fun i _ => rfl, fun h q => by first | omega | (rw [eb] at q; cases q), fun h q => by first | omega | (rw [eb] at q; cases q)⟩
    · first | rw [nI_eq (by omega) (by omega)] at h8 | rw [zi_eqN (by omega)] at h8 | rw [zi_Neq (by omega)] at h8 | rw [zi_eq] at h8
      refine go_iconst (nI 1) (pc := 11) dX0_readSign_11 (by decide) ?_
      refine go_goto 16 (pc := 12) dX0_readSign_12 (by decide) ?_
      refine go_zreturn (pc := 16) dX0_readSign_16 rfl rfl ?_
      have eb : bOK pl s v = true := by unfold bOK; rw [if_pos (by omega)]; exact decide_eq_true (by omega)
      exact ⟨by rw [eb]; rfl, rfl, FrG.rf, fun i _ => rfl, fun i _ => rfl, fun h q => by first | omega | (rw [eb] at q; cases q), fun h q => by first | omega | (rw [eb] at q; cases q)⟩

def okC (nc : Nat) (f : Nat → Nat) (p : Nat) : Bool := bOK (p % 3) (nc + p / 3) (f p)
def carF (nc L : Nat) (f : Nat → Nat) : Option Nat := if rlU (okC nc f) (min L 23) < min L 23 then some (rlU (okC nc f) (min L 23)) else if L ≠ 0 ∧ (23 < L ∨ min L 23 % 3 ≠ 2) then some (min L 23) else none
def carK (nc : Nat) (kd f : Nat → Nat) : Nat → Nat := fun i => if i < nc then kd i else f (3 * (i - nc)) - 48
def carL (nc : Nat) (ld f : Nat → Nat) : Nat → Nat := fun i => if i < nc then ld i else f (3 * (i - nc) + 1) - 48
theorem okC_0 {nc : Nat} {f : Nat → Nat} {q : Nat} (h : okC nc f (3 * q) = true) : nc + q < 8 ∧ 48 ≤ f (3 * q) ∧ f (3 * q) ≤ 52 := by
  unfold okC bOK at h
  rw [show 3 * q % 3 = 0 by omega, show 3 * q / 3 = q by omega, if_neg (by decide), if_pos rfl, Bool.and_eq_true] at h
  have h1 := of_decide_eq_true h.1
  have h2 := of_decide_eq_true h.2
  omega
theorem okC_1 {nc : Nat} {f : Nat → Nat} {q : Nat} (h : okC nc f (3 * q + 1) = true) : 49 ≤ f (3 * q + 1) ∧ f (3 * q + 1) ≤ 57 := by
  unfold okC bOK at h
  rw [show (3 * q + 1) % 3 = 1 by omega, if_neg (by decide), if_neg (by decide), Bool.and_eq_true] at h
  have h2 := of_decide_eq_true h.2
  omega

set_option maxRecDepth 4000 in
theorem c_X0_read {E : zE} {σ : zT} {L nc : Nat} {f kd ld : Nat → Nat} (hT : TextIs σ L f) (hB : BandIs σ nc kd ld) : CalM E 1 yX0_read cX0_read 4 (some .int) [.ref (zA E 2 0), .ref (zA E 1 0)] σ (fun r σ' => r = some (.int (match carF nc L f with | none => nI ((L + 1) / 3) | some q => mF q)) ∧ (match carF nc L f with | none => BandIs σ' (nc + (L + 1) / 3) (carK nc kd f) (carL nc ld f) | some _ => BandIs σ' nc kd ld) ∧ FrG [2] σ σ') := by
  refine cal_of_go (own := RX0) rfl (by decide +kernel) (Nat.le_of_ble_eq_true rfl) ?_
  have hL := hT.2.1
  have hnc := hB.1
  have loop : ∀ (i : Nat) (τ : zT), i ≤ min L 23 → (BandIs τ nc kd ld) → (rlU (okC nc f) i = i) → (∀ q, 3 * q < i → τ.2.1 2 1 (nc + q) = nI (f (3 * q) - 48)) → (∀ q, 3 * q + 1 < i → τ.2.1 2 2 (nc + q) = nI (f (3 * q + 1) - 48)) → (FrG [2] σ τ) → GoM E 1 RX0 cX0_read 4 (some .int) (fun r σ' => r = some (.int (match carF nc L f with | none => nI ((L + 1) / 3) | some q => mF q)) ∧ (match carF nc L f with | none => BandIs σ' (nc + (L + 1) / 3) (carK nc kd f) (carL nc ld f) | some _ => BandIs σ' nc kd ld) ∧ FrG [2] σ σ') τ 12 [(0, .ref (zA E 2 0)), (1, .ref (zA E 1 0)), (2, .int (nI (min L 23))), (3, .int (nI i))] [] := by
    intro i
    induction hj : min L 23 - i using Nat.strongRecOn generalizing i with
    | ind z ih =>
      intro τ hi hBt hr hk hl hf
      have hTt := hT.fr hf (by simp)
      have hi3 : i / 3 ≤ 7 := by omega
      refine go_iload_n (i := 3) (pc := 12) dX0_read_12 rfl rfl ?_
      refine go_iload_n (i := 2) (pc := 13) dX0_read_13 rfl rfl ?_
      refine go_icmp_ge 50 (pc := 14) dX0_read_14 (by decide) (fun h14 => ?_) (fun h14 => ?_)
      · first | rw [nI_leI (by omega) (by omega)] at h14 | rw [zi_leN (by omega)] at h14 | rw [zi_Nle (by omega)] at h14 | rw [zi_le] at h14
        refine go_aload_n (i := 1) (pc := 50) dX0_read_50 rfl rfl ?_
        refine go_callV ml_X0_18 mt_X8_size (pc := 51) dX0_read_51 (c_X8_size hTt) (by first | rfl | (apply zL_cq <;> assumption) | (apply zR_cq <;> assumption)) rfl (by first | rfl | (apply zL_in <;> first | assumption | decide) | (apply zR_in <;> first | assumption | decide)) (by decide) (by decide) rfl rfl (Nat.le_of_ble_eq_true rfl) (fun r σ' hp => ?_)
        obtain ⟨rfl, hσ⟩ := hp
        rw [hσ]
        clear hσ σ'
        dsimp only [zRet]
        refine go_if_ne 59 (pc := 54) dX0_read_54 (by decide) (fun h54 => ?_) (fun h54 => ?_)
        · first | rw [zb_0d] at h54 | rw [zn_eq0 (by omega)] at h54 | rw [zi_eq0] at h54
          refine go_aload_n (i := 1) (pc := 59) dX0_read_59 rfl rfl ?_
          refine go_callV ml_X0_18 mt_X8_size (pc := 60) dX0_read_60 (c_X8_size hTt) (by first | rfl | (apply zL_cq <;> assumption) | (apply zR_cq <;> assumption)) rfl (by first | rfl | (apply zL_in <;> first | assumption | decide) | (apply zR_in <;> first | assumption | decide)) (by decide) (by decide) rfl rfl (Nat.le_of_ble_eq_true rfl) (fun r σ' hp => ?_)
          obtain ⟨rfl, hσ⟩ := hp
          rw [hσ]
          clear hσ σ'
          dsimp only [zRet]
          refine go_bipush (nI 23) (pc := 63) dX0_read_63 (by decide) ?_
          refine go_icmp_gt 75 (pc := 65) dX0_read_65 (by decide) (fun h65 => ?_) (fun h65 => ?_)
          · first | rw [nI_ltI (by omega) (by omega)] at h65 | rw [zi_ltN (by omega)] at h65 | rw [zi_Nlt (by omega)] at h65 | rw [zi_lt] at h65
            refine go_iconst (-1) (pc := 75) dX0_read_75 (by decide) ?_
            refine go_iload_n (i := 2) (pc := 76) dX0_read_76 rfl rfl ?_
            first | with_reducible refine go_isubN (pc := 77) dX0_read_77 (by omega) ?_ | refine go_isub (pc := 77) dX0_read_77 ?_
            refine go_ireturn (pc := 78) dX0_read_78 rfl ?_
            have ei : i = min L 23 := by omega
            have hF : carF nc L f = some (min L 23) := by unfold carF; rw [← ei, hr, if_neg (by omega), if_pos (by omega)]
            rw [hF]
            exact ⟨rfl, hBt, hf⟩
          · first | rw [nI_ltI (by omega) (by omega)] at h65 | rw [zi_ltN (by omega)] at h65 | rw [zi_Nlt (by omega)] at h65 | rw [zi_lt] at h65
            refine go_iload_n (i := 2) (pc := 68) dX0_read_68 rfl rfl ?_
            refine go_iconst (nI 3) (pc := 69) dX0_read_69 (by decide) ?_
            refine go_irem (pc := 70) dX0_read_70 (by decide) ?_
            rw [pk_rem (by omega) (by decide) (by decide)]
            refine go_iconst (nI 2) (pc := 71) dX0_read_71 (by decide) ?_
            refine go_icmp_eq 79 (pc := 72) dX0_read_72 (by decide) (fun h72 => ?_) (fun h72 => ?_)
            · first | rw [nI_eq (by omega) (by omega)] at h72 | rw [zi_eqN (by omega)] at h72 | rw [zi_Neq (by omega)] at h72 | rw [zi_eq] at h72
              refine go_iload_n (i := 2) (pc := 79) dX0_read_79 rfl rfl ?_
              refine go_iconst (nI 1) (pc := 80) dX0_read_80 (by decide) ?_
              first | with_reducible refine go_iaddN (pc := 81) dX0_read_81 ?_ | refine go_iadd (pc := 81) dX0_read_81 ?_
              refine go_iconst (nI 3) (pc := 82) dX0_read_82 (by decide) ?_
              refine go_idiv (pc := 83) dX0_read_83 (by decide) ?_
              rw [pk_div (by omega) (by decide) (by decide)]
              refine go_istore_n (i := 3) (pc := 84) dX0_read_84 rfl (by decide) ?_
              refine go_aload_n (i := 0) (pc := 85) dX0_read_85 rfl rfl ?_
              refine go_dup (pc := 86) dX0_read_86 rfl ?_
              refine go_geti fl_X0_34 (pc := 87) dX0_read_87 (by first | rfl | (apply zL_fi <;> first | assumption | decide) | (apply zR_fi <;> first | assumption | decide)) ?_
              rw [hBt.2.1]
              refine go_iload_n (i := 3) (pc := 90) dX0_read_90 rfl rfl ?_
              first | with_reducible refine go_iaddN (pc := 91) dX0_read_91 ?_ | refine go_iadd (pc := 91) dX0_read_91 ?_
              refine go_puti fp_X0_34 (pc := 92) dX0_read_92 (by first | rfl | (apply zL_fi <;> first | assumption | decide) | (apply zR_fi <;> first | assumption | decide)) rfl rfl ?_
              refine go_iload_n (i := 3) (pc := 95) dX0_read_95 rfl rfl ?_
              refine go_ireturn (pc := 96) dX0_read_96 rfl ?_
              have ei : i = min L 23 := by omega
              have hF : carF nc L f = none := by unfold carF; rw [← ei, hr, if_neg (by omega), if_neg (by omega)]
              rw [hF]
              have hal := rlU_all hr
              have h3 : 3 * ((L + 1) / 3 - 1) < i := by omega
              have hsl := okC_0 (hal _ h3)
              refine ⟨by rw [show min L 23 = L by omega], ⟨by omega, by rw [uS_s, show min L 23 = L by omega], fun j hj => ?_⟩, hf.uS (by simp)⟩
              rw [uS_2]
              unfold carK carL
              by_cases hjn : j < nc
              · rw [if_pos hjn, if_pos hjn]
                exact hBt.2.2 j hjn
              · rw [if_neg hjn, if_neg hjn]
                have q0 := okC_0 (hal (3 * (j - nc)) (by omega))
                have q1 := okC_1 (hal (3 * (j - nc) + 1) (by omega))
                have e1 := hk (j - nc) (by omega)
                have e2 := hl (j - nc) (by omega)
                rw [show nc + (j - nc) = j by omega] at e1 e2
                exact ⟨e1, e2, by omega, by omega, by omega⟩
            · first | rw [nI_eq (by omega) (by omega)] at h72 | rw [zi_eqN (by omega)] at h72 | rw [zi_Neq (by omega)] at h72 | rw [zi_eq] at h72
              refine go_iconst (-1) (pc := 75) dX0_read_75 (by decide) ?_
              refine go_iload_n (i := 2) (pc := 76) dX0_read_76 rfl rfl ?_
              first | with_reducible refine go_isubN (pc := 77) dX0_read_77 (by omega) ?_ | refine go_isub (pc := 77) dX0_read_77 ?_
              refine go_ireturn (pc := 78) dX0_read_78 rfl ?_
              have ei : i = min L 23 := by omega
              have hF : carF nc L f = some (min L 23) := by unfold carF; rw [← ei, hr, if_neg (by omega), if_pos (by omega)]
              rw [hF]
              exact ⟨rfl, hBt, hf⟩
        · first | rw [zb_0d] at h54 | rw [zn_eq0 (by omega)] at h54 | rw [zi_eq0] at h54
          refine go_iconst (nI 0) (pc := 57) dX0_read_57 (by decide) ?_
          refine go_ireturn (pc := 58) dX0_read_58 rfl ?_
          have e : L = 0 := by omega
          have ei : i = min L 23 := by omega
          have hF : carF nc L f = none := by unfold carF; rw [← ei, hr, if_neg (by omega), if_neg (by omega)]
          rw [hF]
          refine ⟨by rw [e], ?_, hf⟩
          subst e
          exact ⟨hBt.1, hBt.2.1, fun j hj => by unfold carK carL; rw [if_pos (show j < nc by omega), if_pos (show j < nc by omega)]; exact hBt.2.2 j (by omega)⟩
      · first | rw [nI_leI (by omega) (by omega)] at h14 | rw [zi_leN (by omega)] at h14 | rw [zi_Nle (by omega)] at h14 | rw [zi_le] at h14
        refine go_aload_n (i := 0) (pc := 17) dX0_read_17 rfl rfl ?_
        refine go_aload_n (i := 1) (pc := 18) dX0_read_18 rfl rfl ?_
        refine go_iload_n (i := 3) (pc := 19) dX0_read_19 rfl rfl ?_
        refine go_callV ml_X0_30 mt_X8_at (pc := 20) dX0_read_20 (c_X8_at hTt (by omega)) (by first | rfl | (apply zL_cq <;> assumption) | (apply zR_cq <;> assumption)) rfl (by first | rfl | (apply zL_in <;> first | assumption | decide) | (apply zR_in <;> first | assumption | decide)) (by decide) (by decide) rfl rfl (Nat.le_of_ble_eq_true rfl) (fun r σ' hp => ?_)
        obtain ⟨rfl, hσ⟩ := hp
        rw [hσ]
        clear hσ σ'
        dsimp only [zRet]
        rw [tAt_in (by omega)]
        have hv := (hT.2.2 i (by omega)).2
        refine go_iload_n (i := 3) (pc := 23) dX0_read_23 rfl rfl ?_
        refine go_iconst (nI 3) (pc := 24) dX0_read_24 (by decide) ?_
        refine go_irem (pc := 25) dX0_read_25 (by decide) ?_
        rw [pk_rem (by omega) (by decide) (by decide)]
        refine go_aload_n (i := 0) (pc := 26) dX0_read_26 rfl rfl ?_
        refine go_geti fl_X0_34 (pc := 27) dX0_read_27 (by first | rfl | (apply zL_fi <;> first | assumption | decide) | (apply zR_fi <;> first | assumption | decide)) ?_
        rw [hBt.2.1]
        refine go_iload_n (i := 3) (pc := 30) dX0_read_30 rfl rfl ?_
        refine go_iconst (nI 3) (pc := 31) dX0_read_31 (by decide) ?_
        refine go_idiv (pc := 32) dX0_read_32 (by decide) ?_
        rw [pk_div (by omega) (by decide) (by decide)]
        first | with_reducible refine go_iaddN (pc := 33) dX0_read_33 ?_ | refine go_iadd (pc := 33) dX0_read_33 ?_
        refine go_callV ml_X0_37 mt_X0_readSign (pc := 34) dX0_read_34 (c_X0_readSign hv (Nat.mod_lt _ (by decide)) (by omega)) (by first | rfl | (apply zL_cq <;> assumption) | (apply zR_cq <;> assumption)) rfl (by first | rfl | (apply zL_in <;> first | assumption | decide) | (apply zR_in <;> first | assumption | decide)) (by decide) (by decide) rfl rfl (Nat.le_of_ble_eq_true rfl) (fun r σ' hp => ?_)
        obtain ⟨rfl, hs2, hf2, hr1, hr2, hw1, hw2⟩ := hp
        dsimp only [zRet]
        have hB2 : BandIs σ' nc kd ld := ⟨hBt.1, by rw [hs2]; exact hBt.2.1, fun j hj => by rw [hr1 j (by omega), hr2 j (by omega)]; exact hBt.2.2 j hj⟩
        have hf3 := hf.tr hf2
        refine go_if_ne 44 (pc := 37) dX0_read_37 (by decide) (fun h37 => ?_) (fun h37 => ?_)
        · rw [zb_0] at h37
          have ho : okC nc f i = true := by unfold okC; simpa using h37
          refine go_iincN (pc := 44) dX0_read_44 rfl (by decide) ?_
          refine go_goto 12 (pc := 47) dX0_read_47 (by decide) ?_
          refine ih (min L 23 - (i + 1)) (by omega) (i + 1) rfl _ (by omega) hB2 (rlU_s hr ho) (fun q hq => ?_) (fun q hq => ?_) hf3
          · by_cases e : 3 * q = i
            · subst e
              have := hw1 (by omega) ho
              rw [show 3 * q / 3 = q by omega] at this
              exact this
            · rw [hr1 _ (by omega)]
              exact hk q (by omega)
          · by_cases e : 3 * q + 1 = i
            · subst e
              have := hw2 (by omega) ho
              rw [show (3 * q + 1) / 3 = q by omega] at this
              exact this
            · rw [hr2 _ (by omega)]
              exact hl q (by omega)
        · rw [zb_0] at h37
          have ho : okC nc f i = false := h37
          refine go_iconst (-1) (pc := 40) dX0_read_40 (by decide) ?_
          refine go_iload_n (i := 3) (pc := 41) dX0_read_41 rfl rfl ?_
          first | with_reducible refine go_isubN (pc := 42) dX0_read_42 (by omega) ?_ | refine go_isub (pc := 42) dX0_read_42 ?_
          refine go_ireturn (pc := 43) dX0_read_43 rfl ?_
          have hq := rlU_badN hr ho (show i < min L 23 by omega)
          have hF : carF nc L f = some i := by unfold carF; rw [hq, if_pos (by omega)]
          rw [hF]
          exact ⟨rfl, hB2, hf3⟩
  refine go_aload_n (i := 1) (pc := 0) dX0_read_0 rfl rfl ?_
  refine go_callV ml_X0_18 mt_X8_size (pc := 1) dX0_read_1 (c_X8_size hT) (by first | rfl | (apply zL_cq <;> assumption) | (apply zR_cq <;> assumption)) rfl (by first | rfl | (apply zL_in <;> first | assumption | decide) | (apply zR_in <;> first | assumption | decide)) (by decide) (by decide) rfl rfl (Nat.le_of_ble_eq_true rfl) (fun r σ' hp => ?_)
  obtain ⟨rfl, hσ⟩ := hp
  rw [hσ]
  clear hσ σ'
  dsimp only [zRet]
  refine go_bipush (nI 23) (pc := 4) dX0_read_4 (by decide) ?_
  refine go_callS ml_X0_24 mt_J9_min_7cf53 (pc := 6) dX0_read_6 (c_J9_minN (by omega) (by decide)) (by decide) (by decide) rfl rfl (Nat.le_of_ble_eq_true rfl) (fun r σ' hp => ?_)
  obtain ⟨rfl, hσ⟩ := hp
  rw [hσ]
  clear hσ σ'
  dsimp only [zRet]
  refine go_istore_n (i := 2) (pc := 9) dX0_read_9 rfl (by decide) ?_
  refine go_iconst (nI 0) (pc := 10) dX0_read_10 (by decide) ?_
  refine go_istore_n (i := 3) (pc := 11) dX0_read_11 rfl (by decide) ?_
  exact loop 0 _ (by omega) hB rfl (fun q hq => absurd hq (by omega)) (fun q hq => absurd hq (by omega)) FrG.rf

theorem c_X11_carriers {E : zE} {σ : zT} {tx : Nat × (Nat → Nat)} {bd : Nat × (Nat → Nat) × (Nat → Nat)} {sk : Nat × (Nat → Nat)} {tw : Nat × (Nat → Nat) × (Nat → Nat)} {xs : List Nat} {ld : Nat × (Nat → Nat)} {pa sh : Nat × (Nat → Nat → Nat)} {ru : Nat × (Nat → Nat) × (Nat → Nat)} {to : Nat × (Nat → Int64)} (hC : ClsIs σ tx bd sk tw xs ld pa sh ru to) : CalM E 4 yX11_carriers cX11_carriers 2 (some .int) [.ref (zA E 0 0)] σ (fun r σ' => r = some (.int (match carF bd.1 tx.1 tx.2 with | none => nI ((tx.1 + 1) / 3) | some q => mF q)) ∧ ClsIs σ' (0, tx.2) (match carF bd.1 tx.1 tx.2 with | none => (bd.1 + (tx.1 + 1) / 3, carK bd.1 bd.2.1 tx.2, carL bd.1 bd.2.2 tx.2) | some _ => bd) sk tw xs ld pa sh ru to ∧ Fr33 σ σ') := by
  refine cal_of_go (own := RX11) rfl (by decide +kernel) (Nat.le_of_ble_eq_true rfl) ?_
  have hL := hC.2.2.2.2.2.1
  have hn := hL.b
  have hok := hL.1
  have hB0 := hC.2.2.1
  have hnc := hB0.1
  have hT := hC.2.1
  refine go_aload_n (i := 0) (pc := 0) dX11_carriers_0 rfl rfl ?_
  refine go_getr2 fl_X11_19 (pc := 1) dX11_carriers_1 (by first | rfl | (apply zL_ci <;> assumption) | (apply zR_ci <;> assumption)) (by first | rfl | (apply zL_in <;> first | assumption | decide) | (apply zR_in <;> first | assumption | decide)) (by first | rfl | (apply zL_fr0 <;> assumption) | (apply zL_fr1 <;> assumption) | (apply zR_fr0 <;> assumption) | (apply zR_fr1 <;> assumption) | (apply zR_fr2 <;> assumption) | (apply zR_fr3 <;> assumption)) ?_
  refine go_aload_n (i := 0) (pc := 4) dX11_carriers_4 rfl rfl ?_
  refine go_getr2 fl_X11_10 (pc := 5) dX11_carriers_5 (by first | rfl | (apply zL_ci <;> assumption) | (apply zR_ci <;> assumption)) (by first | rfl | (apply zL_in <;> first | assumption | decide) | (apply zR_in <;> first | assumption | decide)) (by first | rfl | (apply zL_fr0 <;> assumption) | (apply zL_fr1 <;> assumption) | (apply zR_fr0 <;> assumption) | (apply zR_fr1 <;> assumption) | (apply zR_fr2 <;> assumption) | (apply zR_fr3 <;> assumption)) ?_
  refine go_callV ml_X11_137 mt_X0_read (pc := 8) dX11_carriers_8 (c_X0_read hT hB0) (by first | rfl | (apply zL_cq <;> assumption) | (apply zR_cq <;> assumption)) rfl (by first | rfl | (apply zL_in <;> first | assumption | decide) | (apply zR_in <;> first | assumption | decide)) (by decide) (by decide) rfl rfl (Nat.le_of_ble_eq_true rfl) (fun r σ' hp => ?_)
  obtain ⟨rfl, hp⟩ := hp
  dsimp only [zRet]
  refine go_istore_n (i := 1) (pc := 11) dX11_carriers_11 rfl (by decide) ?_
  refine go_aload_n (i := 0) (pc := 12) dX11_carriers_12 rfl rfl ?_
  refine go_getr2 fl_X11_10 (pc := 13) dX11_carriers_13 (by first | rfl | (apply zL_ci <;> assumption) | (apply zR_ci <;> assumption)) (by first | rfl | (apply zL_in <;> first | assumption | decide) | (apply zR_in <;> first | assumption | decide)) (by first | rfl | (apply zL_fr0 <;> assumption) | (apply zL_fr1 <;> assumption) | (apply zR_fr0 <;> assumption) | (apply zR_fr1 <;> assumption) | (apply zR_fr2 <;> assumption) | (apply zR_fr3 <;> assumption)) ?_
  refine go_callV ml_X11_126 mt_X8_clear (pc := 16) dX11_carriers_16 (c_X8_clear) (by first | rfl | (apply zL_cq <;> assumption) | (apply zR_cq <;> assumption)) rfl (by first | rfl | (apply zL_in <;> first | assumption | decide) | (apply zR_in <;> first | assumption | decide)) (by decide) (by decide) rfl rfl (Nat.le_of_ble_eq_true rfl) (fun r σ' hp => ?_)
  obtain ⟨rfl, rfl⟩ := hp
  dsimp only [zRet]
  refine go_iload_n (i := 1) (pc := 19) dX11_carriers_19 rfl rfl ?_
  refine go_ireturn (pc := 20) dX11_carriers_20 rfl ?_
  have hft : ∀ τ : zT, FrG [1] τ (uS τ 1 1 (nI 0)) := fun τ => FrG.rf.uS (by simp)
  cases hF : carF bd.1 tx.1 tx.2 with
  | none =>
    rw [hF] at hp
    exact ⟨rfl, (hC.setB (bd' := (_, _, _)) hp.2 hp.1).noT, (Fr33.of hp.2 (by simp)).tr (Fr33.of (hft _) (by simp))⟩
  | some q =>
    rw [hF] at hp
    exact ⟨rfl, (hC.setB hp.2 hp.1).noT, (Fr33.of hp.2 (by simp)).tr (Fr33.of (hft _) (by simp))⟩

