theorem c_X12_heard {E : zE} {σ : zT} {tx : Nat × (Nat → Nat)} {bd : Nat × (Nat → Nat) × (Nat → Nat)} {sk : Nat × (Nat → Nat)} {tw : Nat × (Nat → Nat) × (Nat → Nat)} {xs : List Nat} {ld : Nat × (Nat → Nat)} {pa sh : Nat × (Nat → Nat → Nat)} {ru : Nat × (Nat → Nat) × (Nat → Nat)} {to : Nat × (Nat → Int64)} {w v : Int32} (hC : RefIs σ tx bd sk tw xs ld pa sh ru to) : CalM E 1 yX12_heard cX12_heard 5 (some .int) [.ref (zA E 33 0), .int w, .int v] σ (fun r σ' => r = some (.int (if hearOK ru w v then nI (ru.1 + 1) else -1)) ∧ RefIs σ' tx bd sk tw xs ld pa sh (sHear ru w v) to ∧ FrG [33] σ σ') := by
  refine cal_of_go (own := RX12) rfl (by decide +kernel) (Nat.le_of_ble_eq_true rfl) ?_
  have hH := hC.2.2.2.2.2.2.2.2.1
  have h12 := hH.1
  have e39 : (uS σ 33 0 (nI 0)).1 33 39 = nI ru.1 := hH.2.1
  have hF0 : Fr9 [0, 39] [22, 23] σ (uS σ 33 0 (nI 0)) := Fr9.rf.uS (by simp)
  have hbad : ¬ hearOK ru w v → some (Value.int (-1)) = some (Value.int (if hearOK ru w v then nI (ru.1 + 1) else -1)) ∧ RefIs (uS σ 33 0 (nI 0)) tx bd sk tw xs ld pa sh (sHear ru w v) to ∧ FrG [33] σ (uS σ 33 0 (nI 0)) := fun h => by
    unfold sHear
    rw [if_neg h, if_neg h]
    exact ⟨rfl, hC.t0.1, hF0.1⟩
  rcases (show w.toInt = 0 ∨ w.toInt = 1 ∨ (w.toInt ≠ 0 ∧ w.toInt ≠ 1) by omega) with hw | hw | hw
  · refine go_aload_n (i := 0) (pc := 0) dX12_heard_0 rfl rfl ?_
    refine go_iconst (nI 0) (pc := 1) dX12_heard_1 (by decide) ?_
    refine go_puti fp_X12_97 (pc := 2) dX12_heard_2 (by rfl) rfl rfl ?_
    refine go_iload_n (i := 1) (pc := 5) dX12_heard_5 rfl rfl ?_
    refine go_iconst (nI 1) (pc := 6) dX12_heard_6 (by decide) ?_
    refine go_icmp_ne 14 (pc := 7) dX12_heard_7 (by decide) (fun h7 => ?_) (fun h7 => ?_)
    · first | rw [nI_eq (by omega) (by omega)] at h7 | rw [zi_eqN (by omega)] at h7 | rw [zi_Neq (by omega)] at h7 | rw [zi_eq] at h7
      refine go_iconst (nI 0) (pc := 14) dX12_heard_14 (by decide) ?_
      refine go_istore_n (i := 3) (pc := 15) dX12_heard_15 rfl (by decide) ?_
      refine go_iload_n (i := 1) (pc := 16) dX12_heard_16 rfl rfl ?_
      refine go_if_ne 24 (pc := 17) dX12_heard_17 (by decide) (fun h17 => ?_) (fun h17 => ?_)
      · first | rw [zb_0d] at h17 | rw [zn_eq0 (by omega)] at h17 | rw [zi_eq0] at h17
        exfalso; omega
      · first | rw [zb_0d] at h17 | rw [zn_eq0 (by omega)] at h17 | rw [zi_eq0] at h17
        refine go_iconst (nI 4) (pc := 20) dX12_heard_20 (by decide) ?_
        refine go_goto 35 (pc := 21) dX12_heard_21 (by decide) ?_
        refine go_istore (pc := 35) dX12_heard_35 (by decide) ?_
        refine go_iload_n (i := 1) (pc := 37) dX12_heard_37 rfl rfl ?_
        refine go_i2l (pc := 38) dX12_heard_38 ?_
        refine go_lconst (lN 0) (pc := 39) dX12_heard_39 (by decide) ?_
        refine go_ldc2 (2) kc_X12_279 (pc := 40) dX12_heard_40 ?_
        refine go_callS ml_X12_107 mt_X12_in (pc := 43) dX12_heard_43 (c_in (lo := 0) (hi := 2) (by decide) (by decide)) (by decide) (by decide) rfl rfl (Nat.le_of_ble_eq_true rfl) (fun r σ' hp => ?_)
        obtain ⟨rfl, hσ⟩ := hp
        rw [hσ]
        clear hσ σ'
        dsimp only [zRet]
        refine go_if_eq 71 (pc := 46) dX12_heard_46 (by decide) (fun h46 => ?_) (fun h46 => ?_)
        · first | rw [zb_0d] at h46 | rw [zn_eq0 (by omega)] at h46 | rw [zi_eq0] at h46
          refine go_iconst (-1) (pc := 71) dX12_heard_71 (by decide) ?_
          refine go_ireturn (pc := 72) dX12_heard_72 rfl ?_
          exact hbad (fun h => by have h1 := h.1; have h2 := h.2; unfold known at h1; omega)
        · first | rw [zb_0d] at h46 | rw [zn_eq0 (by omega)] at h46 | rw [zi_eq0] at h46
          refine go_iload_n (i := 2) (pc := 49) dX12_heard_49 rfl rfl ?_
          refine go_i2l (pc := 50) dX12_heard_50 ?_
          refine go_iload_n (i := 3) (pc := 51) dX12_heard_51 rfl rfl ?_
          refine go_i2l (pc := 52) dX12_heard_52 ?_
          refine go_iload (pc := 53) dX12_heard_53 rfl ?_
          refine go_i2l (pc := 55) dX12_heard_55 ?_
          refine go_callS ml_X12_107 mt_X12_in (pc := 56) dX12_heard_56 (c_in (lo := 0) (hi := 4) (by decide) (by decide)) (by decide) (by decide) rfl rfl (Nat.le_of_ble_eq_true rfl) (fun r σ' hp => ?_)
          obtain ⟨rfl, hσ⟩ := hp
          rw [hσ]
          clear hσ σ'
          dsimp only [zRet]
          refine go_if_eq 71 (pc := 59) dX12_heard_59 (by decide) (fun h59 => ?_) (fun h59 => ?_)
          · first | rw [zb_0d] at h59 | rw [zn_eq0 (by omega)] at h59 | rw [zi_eq0] at h59
            refine go_iconst (-1) (pc := 71) dX12_heard_71 (by decide) ?_
            refine go_ireturn (pc := 72) dX12_heard_72 rfl ?_
            exact hbad (fun h => by have h1 := h.1; have h2 := h.2; unfold known at h1; omega)
          · first | rw [zb_0d] at h59 | rw [zn_eq0 (by omega)] at h59 | rw [zi_eq0] at h59
            refine go_aload_n (i := 0) (pc := 62) dX12_heard_62 rfl rfl ?_
            refine go_geti fl_X12_410 (pc := 63) dX12_heard_63 (by rfl) ?_
            rw [e39]
            refine go_bipush (nI 12) (pc := 66) dX12_heard_66 (by decide) ?_
            refine go_icmp_ne 73 (pc := 68) dX12_heard_68 (by decide) (fun h68 => ?_) (fun h68 => ?_)
            · first | rw [nI_eq (by omega) (by omega)] at h68 | rw [zi_eqN (by omega)] at h68 | rw [zi_Neq (by omega)] at h68 | rw [zi_eq] at h68
              refine go_aload_n (i := 0) (pc := 73) dX12_heard_73 rfl rfl ?_
              refine go_getr2 fl_X12_81 (pc := 74) dX12_heard_74 (by rfl) (by rfl) (by rfl) ?_
              refine go_aload_n (i := 0) (pc := 77) dX12_heard_77 rfl rfl ?_
              refine go_geti fl_X12_410 (pc := 78) dX12_heard_78 (by rfl) ?_
              rw [e39]
              refine go_iload_n (i := 1) (pc := 81) dX12_heard_81 rfl rfl ?_
              refine go_iastore _ (pc := 82) dX12_heard_82 (by first | rfl | (apply zM_ar <;> assumption)) (by first | rfl | (apply zM_jn <;> assumption)) rfl (by first | assumption | omega) ?_
              refine go_aload_n (i := 0) (pc := 83) dX12_heard_83 rfl rfl ?_
              refine go_getr2 fl_X12_84 (pc := 84) dX12_heard_84 (by rfl) (by rfl) (by rfl) ?_
              refine go_aload_n (i := 0) (pc := 87) dX12_heard_87 rfl rfl ?_
              refine go_geti fl_X12_410 (pc := 88) dX12_heard_88 (by rfl) ?_
              rw [show (uA (uS σ 33 0 (nI 0)) 33 22 (upd ((uS σ 33 0 (nI 0)).2.1 33 22) ru.1 w)).1 33 39 = nI ru.1 from e39]
              refine go_iload_n (i := 2) (pc := 91) dX12_heard_91 rfl rfl ?_
              refine go_iastore _ (pc := 92) dX12_heard_92 (by first | rfl | (apply zM_ar <;> assumption)) (by first | rfl | (apply zM_jn <;> assumption)) rfl (by first | assumption | omega) ?_
              refine go_aload_n (i := 0) (pc := 93) dX12_heard_93 rfl rfl ?_
              refine go_dup (pc := 94) dX12_heard_94 rfl ?_
              refine go_geti fl_X12_410 (pc := 95) dX12_heard_95 (by rfl) ?_
              rw [show (uA (uA (uS σ 33 0 (nI 0)) 33 22 (upd ((uS σ 33 0 (nI 0)).2.1 33 22) ru.1 w)) 33 23 (upd ((uA (uS σ 33 0 (nI 0)) 33 22 (upd ((uS σ 33 0 (nI 0)).2.1 33 22) ru.1 w)).2.1 33 23) ru.1 v)).1 33 39 = nI ru.1 from e39]
              refine go_iconst (nI 1) (pc := 98) dX12_heard_98 (by decide) ?_
              first | with_reducible refine go_iaddN (pc := 99) dX12_heard_99 ?_ | refine go_iadd (pc := 99) dX12_heard_99 ?_
              refine go_puti fp_X12_410 (pc := 100) dX12_heard_100 (by rfl) rfl rfl ?_
              refine go_aload_n (i := 0) (pc := 103) dX12_heard_103 rfl rfl ?_
              refine go_geti fl_X12_410 (pc := 104) dX12_heard_104 (by rfl) ?_
              rw [uS_s]
              refine go_ireturn (pc := 107) dX12_heard_107 rfl ?_
              have hgo : hearOK ru w v := ⟨by unfold known; omega, by omega⟩
              unfold sHear
              rw [if_pos hgo, if_pos hgo]
              have ev := nI_of' (x := v) (by omega)
              have ew := nI_of' (x := w) (by omega)
              have hF2 : Fr9 [0, 39] [22, 23] σ (uS (uA (uA (uS σ 33 0 (nI 0)) 33 22 (upd ((uS σ 33 0 (nI 0)).2.1 33 22) ru.1 w)) 33 23 (upd ((uA (uS σ 33 0 (nI 0)) 33 22 (upd ((uS σ 33 0 (nI 0)).2.1 33 22) ru.1 w)).2.1 33 23) ru.1 v)) 33 39 (nI (ru.1 + 1))) := ((hF0.uA (by simp)).uA (by simp)).uS (by simp)
              refine ⟨rfl, ⟨(hC.1).fr hF2 (by decide) (by decide), (hC.2.1).fr hF2 (by decide) (by decide), (hC.2.2.1).fr hF2 (by decide) (by decide) (by decide), (hC.2.2.2.1).fr hF2 (by decide) (by decide), (hC.2.2.2.2.1).fr hF2 (by decide) (by decide) (by decide), (hC.2.2.2.2.2.1).fr hF2 (by decide) (by decide), (hC.2.2.2.2.2.2.1).fr hF2 (by decide) (by decide), (hC.2.2.2.2.2.2.2.1).fr hF2 (by decide) (by decide), ⟨hgo.2, uS_s _ _ _ _, fun q hq => ?_⟩, (hC.2.2.2.2.2.2.2.2.2).fr hF2 (by decide) (by decide)⟩, hF2.1⟩
              dsimp only at hq ⊢
              rw [uS_2, uA_s, uA_2, if_neg (by decide), uA_s, upd_at, upd_at, va_at', va_at']
              by_cases h : q = ru.1
              · rw [if_pos h, if_pos h, if_pos h, if_pos h]
                refine ⟨ew, ?_, by omega, by omega, by omega⟩
                exact ev
              · rw [if_neg h, if_neg h, if_neg h, if_neg h]
                exact hH.2.2 q (by omega)
            · first | rw [nI_eq (by omega) (by omega)] at h68 | rw [zi_eqN (by omega)] at h68 | rw [zi_Neq (by omega)] at h68 | rw [zi_eq] at h68
              refine go_iconst (-1) (pc := 71) dX12_heard_71 (by decide) ?_
              refine go_ireturn (pc := 72) dX12_heard_72 rfl ?_
              exact hbad (fun h => by have h1 := h.1; have h2 := h.2; unfold known at h1; omega)
    · first | rw [nI_eq (by omega) (by omega)] at h7 | rw [zi_eqN (by omega)] at h7 | rw [zi_Neq (by omega)] at h7 | rw [zi_eq] at h7
      exfalso; omega
  · refine go_aload_n (i := 0) (pc := 0) dX12_heard_0 rfl rfl ?_
    refine go_iconst (nI 0) (pc := 1) dX12_heard_1 (by decide) ?_
    refine go_puti fp_X12_97 (pc := 2) dX12_heard_2 (by rfl) rfl rfl ?_
    refine go_iload_n (i := 1) (pc := 5) dX12_heard_5 rfl rfl ?_
    refine go_iconst (nI 1) (pc := 6) dX12_heard_6 (by decide) ?_
    refine go_icmp_ne 14 (pc := 7) dX12_heard_7 (by decide) (fun h7 => ?_) (fun h7 => ?_)
    · first | rw [nI_eq (by omega) (by omega)] at h7 | rw [zi_eqN (by omega)] at h7 | rw [zi_Neq (by omega)] at h7 | rw [zi_eq] at h7
      exfalso; omega
    · first | rw [nI_eq (by omega) (by omega)] at h7 | rw [zi_eqN (by omega)] at h7 | rw [zi_Neq (by omega)] at h7 | rw [zi_eq] at h7
      refine go_iconst (nI 1) (pc := 10) dX12_heard_10 (by decide) ?_
      refine go_goto 15 (pc := 11) dX12_heard_11 (by decide) ?_
      refine go_istore_n (i := 3) (pc := 15) dX12_heard_15 rfl (by decide) ?_
      refine go_iload_n (i := 1) (pc := 16) dX12_heard_16 rfl rfl ?_
      refine go_if_ne 24 (pc := 17) dX12_heard_17 (by decide) (fun h17 => ?_) (fun h17 => ?_)
      · first | rw [zb_0d] at h17 | rw [zn_eq0 (by omega)] at h17 | rw [zi_eq0] at h17
        refine go_iload_n (i := 1) (pc := 24) dX12_heard_24 rfl rfl ?_
        refine go_iconst (nI 1) (pc := 25) dX12_heard_25 (by decide) ?_
        refine go_icmp_ne 34 (pc := 26) dX12_heard_26 (by decide) (fun h26 => ?_) (fun h26 => ?_)
        · first | rw [nI_eq (by omega) (by omega)] at h26 | rw [zi_eqN (by omega)] at h26 | rw [zi_Neq (by omega)] at h26 | rw [zi_eq] at h26
          exfalso; omega
        · first | rw [nI_eq (by omega) (by omega)] at h26 | rw [zi_eqN (by omega)] at h26 | rw [zi_Neq (by omega)] at h26 | rw [zi_eq] at h26
          refine go_bipush (nI 9) (pc := 29) dX12_heard_29 (by decide) ?_
          refine go_goto 35 (pc := 31) dX12_heard_31 (by decide) ?_
          refine go_istore (pc := 35) dX12_heard_35 (by decide) ?_
          refine go_iload_n (i := 1) (pc := 37) dX12_heard_37 rfl rfl ?_
          refine go_i2l (pc := 38) dX12_heard_38 ?_
          refine go_lconst (lN 0) (pc := 39) dX12_heard_39 (by decide) ?_
          refine go_ldc2 (2) kc_X12_279 (pc := 40) dX12_heard_40 ?_
          refine go_callS ml_X12_107 mt_X12_in (pc := 43) dX12_heard_43 (c_in (lo := 0) (hi := 2) (by decide) (by decide)) (by decide) (by decide) rfl rfl (Nat.le_of_ble_eq_true rfl) (fun r σ' hp => ?_)
          obtain ⟨rfl, hσ⟩ := hp
          rw [hσ]
          clear hσ σ'
          dsimp only [zRet]
          refine go_if_eq 71 (pc := 46) dX12_heard_46 (by decide) (fun h46 => ?_) (fun h46 => ?_)
          · first | rw [zb_0d] at h46 | rw [zn_eq0 (by omega)] at h46 | rw [zi_eq0] at h46
            refine go_iconst (-1) (pc := 71) dX12_heard_71 (by decide) ?_
            refine go_ireturn (pc := 72) dX12_heard_72 rfl ?_
            exact hbad (fun h => by have h1 := h.1; have h2 := h.2; unfold known at h1; omega)
          · first | rw [zb_0d] at h46 | rw [zn_eq0 (by omega)] at h46 | rw [zi_eq0] at h46
            refine go_iload_n (i := 2) (pc := 49) dX12_heard_49 rfl rfl ?_
            refine go_i2l (pc := 50) dX12_heard_50 ?_
            refine go_iload_n (i := 3) (pc := 51) dX12_heard_51 rfl rfl ?_
            refine go_i2l (pc := 52) dX12_heard_52 ?_
            refine go_iload (pc := 53) dX12_heard_53 rfl ?_
            refine go_i2l (pc := 55) dX12_heard_55 ?_
            refine go_callS ml_X12_107 mt_X12_in (pc := 56) dX12_heard_56 (c_in (lo := 1) (hi := 9) (by decide) (by decide)) (by decide) (by decide) rfl rfl (Nat.le_of_ble_eq_true rfl) (fun r σ' hp => ?_)
            obtain ⟨rfl, hσ⟩ := hp
            rw [hσ]
            clear hσ σ'
            dsimp only [zRet]
            refine go_if_eq 71 (pc := 59) dX12_heard_59 (by decide) (fun h59 => ?_) (fun h59 => ?_)
            · first | rw [zb_0d] at h59 | rw [zn_eq0 (by omega)] at h59 | rw [zi_eq0] at h59
              refine go_iconst (-1) (pc := 71) dX12_heard_71 (by decide) ?_
              refine go_ireturn (pc := 72) dX12_heard_72 rfl ?_
              exact hbad (fun h => by have h1 := h.1; have h2 := h.2; unfold known at h1; omega)
            · first | rw [zb_0d] at h59 | rw [zn_eq0 (by omega)] at h59 | rw [zi_eq0] at h59
              refine go_aload_n (i := 0) (pc := 62) dX12_heard_62 rfl rfl ?_
              refine go_geti fl_X12_410 (pc := 63) dX12_heard_63 (by rfl) ?_
              rw [e39]
              refine go_bipush (nI 12) (pc := 66) dX12_heard_66 (by decide) ?_
              refine go_icmp_ne 73 (pc := 68) dX12_heard_68 (by decide) (fun h68 => ?_) (fun h68 => ?_)
              · first | rw [nI_eq (by omega) (by omega)] at h68 | rw [zi_eqN (by omega)] at h68 | rw [zi_Neq (by omega)] at h68 | rw [zi_eq] at h68
                refine go_aload_n (i := 0) (pc := 73) dX12_heard_73 rfl rfl ?_
                refine go_getr2 fl_X12_81 (pc := 74) dX12_heard_74 (by rfl) (by rfl) (by rfl) ?_
                refine go_aload_n (i := 0) (pc := 77) dX12_heard_77 rfl rfl ?_
                refine go_geti fl_X12_410 (pc := 78) dX12_heard_78 (by rfl) ?_
                rw [e39]
                refine go_iload_n (i := 1) (pc := 81) dX12_heard_81 rfl rfl ?_
                refine go_iastore _ (pc := 82) dX12_heard_82 (by first | rfl | (apply zM_ar <;> assumption)) (by first | rfl | (apply zM_jn <;> assumption)) rfl (by first | assumption | omega) ?_
                refine go_aload_n (i := 0) (pc := 83) dX12_heard_83 rfl rfl ?_
                refine go_getr2 fl_X12_84 (pc := 84) dX12_heard_84 (by rfl) (by rfl) (by rfl) ?_
                refine go_aload_n (i := 0) (pc := 87) dX12_heard_87 rfl rfl ?_
                refine go_geti fl_X12_410 (pc := 88) dX12_heard_88 (by rfl) ?_
                rw [show (uA (uS σ 33 0 (nI 0)) 33 22 (upd ((uS σ 33 0 (nI 0)).2.1 33 22) ru.1 w)).1 33 39 = nI ru.1 from e39]
                refine go_iload_n (i := 2) (pc := 91) dX12_heard_91 rfl rfl ?_
                refine go_iastore _ (pc := 92) dX12_heard_92 (by first | rfl | (apply zM_ar <;> assumption)) (by first | rfl | (apply zM_jn <;> assumption)) rfl (by first | assumption | omega) ?_
                refine go_aload_n (i := 0) (pc := 93) dX12_heard_93 rfl rfl ?_
                refine go_dup (pc := 94) dX12_heard_94 rfl ?_
                refine go_geti fl_X12_410 (pc := 95) dX12_heard_95 (by rfl) ?_
                rw [show (uA (uA (uS σ 33 0 (nI 0)) 33 22 (upd ((uS σ 33 0 (nI 0)).2.1 33 22) ru.1 w)) 33 23 (upd ((uA (uS σ 33 0 (nI 0)) 33 22 (upd ((uS σ 33 0 (nI 0)).2.1 33 22) ru.1 w)).2.1 33 23) ru.1 v)).1 33 39 = nI ru.1 from e39]
                refine go_iconst (nI 1) (pc := 98) dX12_heard_98 (by decide) ?_
                first | with_reducible refine go_iaddN (pc := 99) dX12_heard_99 ?_ | refine go_iadd (pc := 99) dX12_heard_99 ?_
                refine go_puti fp_X12_410 (pc := 100) dX12_heard_100 (by rfl) rfl rfl ?_
                refine go_aload_n (i := 0) (pc := 103) dX12_heard_103 rfl rfl ?_
                refine go_geti fl_X12_410 (pc := 104) dX12_heard_104 (by rfl) ?_
                rw [uS_s]
                refine go_ireturn (pc := 107) dX12_heard_107 rfl ?_
                have hgo : hearOK ru w v := ⟨by unfold known; omega, by omega⟩
                unfold sHear
                rw [if_pos hgo, if_pos hgo]
                have ev := nI_of' (x := v) (by omega)
                have ew := nI_of' (x := w) (by omega)
                have hF2 : Fr9 [0, 39] [22, 23] σ (uS (uA (uA (uS σ 33 0 (nI 0)) 33 22 (upd ((uS σ 33 0 (nI 0)).2.1 33 22) ru.1 w)) 33 23 (upd ((uA (uS σ 33 0 (nI 0)) 33 22 (upd ((uS σ 33 0 (nI 0)).2.1 33 22) ru.1 w)).2.1 33 23) ru.1 v)) 33 39 (nI (ru.1 + 1))) := ((hF0.uA (by simp)).uA (by simp)).uS (by simp)
                refine ⟨rfl, ⟨(hC.1).fr hF2 (by decide) (by decide), (hC.2.1).fr hF2 (by decide) (by decide), (hC.2.2.1).fr hF2 (by decide) (by decide) (by decide), (hC.2.2.2.1).fr hF2 (by decide) (by decide), (hC.2.2.2.2.1).fr hF2 (by decide) (by decide) (by decide), (hC.2.2.2.2.2.1).fr hF2 (by decide) (by decide), (hC.2.2.2.2.2.2.1).fr hF2 (by decide) (by decide), (hC.2.2.2.2.2.2.2.1).fr hF2 (by decide) (by decide), ⟨hgo.2, uS_s _ _ _ _, fun q hq => ?_⟩, (hC.2.2.2.2.2.2.2.2.2).fr hF2 (by decide) (by decide)⟩, hF2.1⟩
                dsimp only at hq ⊢
                rw [uS_2, uA_s, uA_2, if_neg (by decide), uA_s, upd_at, upd_at, va_at', va_at']
                by_cases h : q = ru.1
                · rw [if_pos h, if_pos h, if_pos h, if_pos h]
                  refine ⟨ew, ?_, by omega, by omega, by omega⟩
                  exact ev
                · rw [if_neg h, if_neg h, if_neg h, if_neg h]
                  exact hH.2.2 q (by omega)
              · first | rw [nI_eq (by omega) (by omega)] at h68 | rw [zi_eqN (by omega)] at h68 | rw [zi_Neq (by omega)] at h68 | rw [zi_eq] at h68
                refine go_iconst (-1) (pc := 71) dX12_heard_71 (by decide) ?_
                refine go_ireturn (pc := 72) dX12_heard_72 rfl ?_
                exact hbad (fun h => by have h1 := h.1; have h2 := h.2; unfold known at h1; omega)
      · first | rw [zb_0d] at h17 | rw [zn_eq0 (by omega)] at h17 | rw [zi_eq0] at h17
        exfalso; omega
  · refine go_aload_n (i := 0) (pc := 0) dX12_heard_0 rfl rfl ?_
    refine go_iconst (nI 0) (pc := 1) dX12_heard_1 (by decide) ?_
    refine go_puti fp_X12_97 (pc := 2) dX12_heard_2 (by rfl) rfl rfl ?_
    refine go_iload_n (i := 1) (pc := 5) dX12_heard_5 rfl rfl ?_
    refine go_iconst (nI 1) (pc := 6) dX12_heard_6 (by decide) ?_
    refine go_icmp_ne 14 (pc := 7) dX12_heard_7 (by decide) (fun h7 => ?_) (fun h7 => ?_)
    · first | rw [nI_eq (by omega) (by omega)] at h7 | rw [zi_eqN (by omega)] at h7 | rw [zi_Neq (by omega)] at h7 | rw [zi_eq] at h7
      refine go_iconst (nI 0) (pc := 14) dX12_heard_14 (by decide) ?_
      refine go_istore_n (i := 3) (pc := 15) dX12_heard_15 rfl (by decide) ?_
      refine go_iload_n (i := 1) (pc := 16) dX12_heard_16 rfl rfl ?_
      refine go_if_ne 24 (pc := 17) dX12_heard_17 (by decide) (fun h17 => ?_) (fun h17 => ?_)
      · first | rw [zb_0d] at h17 | rw [zn_eq0 (by omega)] at h17 | rw [zi_eq0] at h17
        refine go_iload_n (i := 1) (pc := 24) dX12_heard_24 rfl rfl ?_
        refine go_iconst (nI 1) (pc := 25) dX12_heard_25 (by decide) ?_
        refine go_icmp_ne 34 (pc := 26) dX12_heard_26 (by decide) (fun h26 => ?_) (fun h26 => ?_)
        · first | rw [nI_eq (by omega) (by omega)] at h26 | rw [zi_eqN (by omega)] at h26 | rw [zi_Neq (by omega)] at h26 | rw [zi_eq] at h26
          refine go_iconst (nI 1) (pc := 34) dX12_heard_34 (by decide) ?_
          refine go_istore (pc := 35) dX12_heard_35 (by decide) ?_
          refine go_iload_n (i := 1) (pc := 37) dX12_heard_37 rfl rfl ?_
          refine go_i2l (pc := 38) dX12_heard_38 ?_
          refine go_lconst (lN 0) (pc := 39) dX12_heard_39 (by decide) ?_
          refine go_ldc2 (2) kc_X12_279 (pc := 40) dX12_heard_40 ?_
          refine go_callS ml_X12_107 mt_X12_in (pc := 43) dX12_heard_43 (c_in (lo := 0) (hi := 2) (by decide) (by decide)) (by decide) (by decide) rfl rfl (Nat.le_of_ble_eq_true rfl) (fun r σ' hp => ?_)
          obtain ⟨rfl, hσ⟩ := hp
          rw [hσ]
          clear hσ σ'
          dsimp only [zRet]
          refine go_if_eq 71 (pc := 46) dX12_heard_46 (by decide) (fun h46 => ?_) (fun h46 => ?_)
          · first | rw [zb_0d] at h46 | rw [zn_eq0 (by omega)] at h46 | rw [zi_eq0] at h46
            refine go_iconst (-1) (pc := 71) dX12_heard_71 (by decide) ?_
            refine go_ireturn (pc := 72) dX12_heard_72 rfl ?_
            exact hbad (fun h => by have h1 := h.1; have h2 := h.2; unfold known at h1; omega)
          · first | rw [zb_0d] at h46 | rw [zn_eq0 (by omega)] at h46 | rw [zi_eq0] at h46
            refine go_iload_n (i := 2) (pc := 49) dX12_heard_49 rfl rfl ?_
            refine go_i2l (pc := 50) dX12_heard_50 ?_
            refine go_iload_n (i := 3) (pc := 51) dX12_heard_51 rfl rfl ?_
            refine go_i2l (pc := 52) dX12_heard_52 ?_
            refine go_iload (pc := 53) dX12_heard_53 rfl ?_
            refine go_i2l (pc := 55) dX12_heard_55 ?_
            refine go_callS ml_X12_107 mt_X12_in (pc := 56) dX12_heard_56 (c_in (lo := 0) (hi := 1) (by decide) (by decide)) (by decide) (by decide) rfl rfl (Nat.le_of_ble_eq_true rfl) (fun r σ' hp => ?_)
            obtain ⟨rfl, hσ⟩ := hp
            rw [hσ]
            clear hσ σ'
            dsimp only [zRet]
            refine go_if_eq 71 (pc := 59) dX12_heard_59 (by decide) (fun h59 => ?_) (fun h59 => ?_)
            · first | rw [zb_0d] at h59 | rw [zn_eq0 (by omega)] at h59 | rw [zi_eq0] at h59
              refine go_iconst (-1) (pc := 71) dX12_heard_71 (by decide) ?_
              refine go_ireturn (pc := 72) dX12_heard_72 rfl ?_
              exact hbad (fun h => by have h1 := h.1; have h2 := h.2; unfold known at h1; omega)
            · first | rw [zb_0d] at h59 | rw [zn_eq0 (by omega)] at h59 | rw [zi_eq0] at h59
              refine go_aload_n (i := 0) (pc := 62) dX12_heard_62 rfl rfl ?_
              refine go_geti fl_X12_410 (pc := 63) dX12_heard_63 (by rfl) ?_
              rw [e39]
              refine go_bipush (nI 12) (pc := 66) dX12_heard_66 (by decide) ?_
              refine go_icmp_ne 73 (pc := 68) dX12_heard_68 (by decide) (fun h68 => ?_) (fun h68 => ?_)
              · first | rw [nI_eq (by omega) (by omega)] at h68 | rw [zi_eqN (by omega)] at h68 | rw [zi_Neq (by omega)] at h68 | rw [zi_eq] at h68
                refine go_aload_n (i := 0) (pc := 73) dX12_heard_73 rfl rfl ?_
                refine go_getr2 fl_X12_81 (pc := 74) dX12_heard_74 (by rfl) (by rfl) (by rfl) ?_
                refine go_aload_n (i := 0) (pc := 77) dX12_heard_77 rfl rfl ?_
                refine go_geti fl_X12_410 (pc := 78) dX12_heard_78 (by rfl) ?_
                rw [e39]
                refine go_iload_n (i := 1) (pc := 81) dX12_heard_81 rfl rfl ?_
                refine go_iastore _ (pc := 82) dX12_heard_82 (by first | rfl | (apply zM_ar <;> assumption)) (by first | rfl | (apply zM_jn <;> assumption)) rfl (by first | assumption | omega) ?_
                refine go_aload_n (i := 0) (pc := 83) dX12_heard_83 rfl rfl ?_
                refine go_getr2 fl_X12_84 (pc := 84) dX12_heard_84 (by rfl) (by rfl) (by rfl) ?_
                refine go_aload_n (i := 0) (pc := 87) dX12_heard_87 rfl rfl ?_
                refine go_geti fl_X12_410 (pc := 88) dX12_heard_88 (by rfl) ?_
                rw [show (uA (uS σ 33 0 (nI 0)) 33 22 (upd ((uS σ 33 0 (nI 0)).2.1 33 22) ru.1 w)).1 33 39 = nI ru.1 from e39]
                refine go_iload_n (i := 2) (pc := 91) dX12_heard_91 rfl rfl ?_
                refine go_iastore _ (pc := 92) dX12_heard_92 (by first | rfl | (apply zM_ar <;> assumption)) (by first | rfl | (apply zM_jn <;> assumption)) rfl (by first | assumption | omega) ?_
                refine go_aload_n (i := 0) (pc := 93) dX12_heard_93 rfl rfl ?_
                refine go_dup (pc := 94) dX12_heard_94 rfl ?_
                refine go_geti fl_X12_410 (pc := 95) dX12_heard_95 (by rfl) ?_
                rw [show (uA (uA (uS σ 33 0 (nI 0)) 33 22 (upd ((uS σ 33 0 (nI 0)).2.1 33 22) ru.1 w)) 33 23 (upd ((uA (uS σ 33 0 (nI 0)) 33 22 (upd ((uS σ 33 0 (nI 0)).2.1 33 22) ru.1 w)).2.1 33 23) ru.1 v)).1 33 39 = nI ru.1 from e39]
                refine go_iconst (nI 1) (pc := 98) dX12_heard_98 (by decide) ?_
                first | with_reducible refine go_iaddN (pc := 99) dX12_heard_99 ?_ | refine go_iadd (pc := 99) dX12_heard_99 ?_
                refine go_puti fp_X12_410 (pc := 100) dX12_heard_100 (by rfl) rfl rfl ?_
                refine go_aload_n (i := 0) (pc := 103) dX12_heard_103 rfl rfl ?_
                refine go_geti fl_X12_410 (pc := 104) dX12_heard_104 (by rfl) ?_
                rw [uS_s]
                refine go_ireturn (pc := 107) dX12_heard_107 rfl ?_
                have hgo : hearOK ru w v := ⟨by unfold known; omega, by omega⟩
                unfold sHear
                rw [if_pos hgo, if_pos hgo]
                have ev := nI_of' (x := v) (by omega)
                have ew := nI_of' (x := w) (by omega)
                have hF2 : Fr9 [0, 39] [22, 23] σ (uS (uA (uA (uS σ 33 0 (nI 0)) 33 22 (upd ((uS σ 33 0 (nI 0)).2.1 33 22) ru.1 w)) 33 23 (upd ((uA (uS σ 33 0 (nI 0)) 33 22 (upd ((uS σ 33 0 (nI 0)).2.1 33 22) ru.1 w)).2.1 33 23) ru.1 v)) 33 39 (nI (ru.1 + 1))) := ((hF0.uA (by simp)).uA (by simp)).uS (by simp)
                refine ⟨rfl, ⟨(hC.1).fr hF2 (by decide) (by decide), (hC.2.1).fr hF2 (by decide) (by decide), (hC.2.2.1).fr hF2 (by decide) (by decide) (by decide), (hC.2.2.2.1).fr hF2 (by decide) (by decide), (hC.2.2.2.2.1).fr hF2 (by decide) (by decide) (by decide), (hC.2.2.2.2.2.1).fr hF2 (by decide) (by decide), (hC.2.2.2.2.2.2.1).fr hF2 (by decide) (by decide), (hC.2.2.2.2.2.2.2.1).fr hF2 (by decide) (by decide), ⟨hgo.2, uS_s _ _ _ _, fun q hq => ?_⟩, (hC.2.2.2.2.2.2.2.2.2).fr hF2 (by decide) (by decide)⟩, hF2.1⟩
                dsimp only at hq ⊢
                rw [uS_2, uA_s, uA_2, if_neg (by decide), uA_s, upd_at, upd_at, va_at', va_at']
                by_cases h : q = ru.1
                · rw [if_pos h, if_pos h, if_pos h, if_pos h]
                  refine ⟨ew, ?_, by omega, by omega, by omega⟩
                  exact ev
                · rw [if_neg h, if_neg h, if_neg h, if_neg h]
                  exact hH.2.2 q (by omega)
              · first | rw [nI_eq (by omega) (by omega)] at h68 | rw [zi_eqN (by omega)] at h68 | rw [zi_Neq (by omega)] at h68 | rw [zi_eq] at h68
                refine go_iconst (-1) (pc := 71) dX12_heard_71 (by decide) ?_
                refine go_ireturn (pc := 72) dX12_heard_72 rfl ?_
                exact hbad (fun h => by have h1 := h.1; have h2 := h.2; unfold known at h1; omega)
        · first | rw [nI_eq (by omega) (by omega)] at h26 | rw [zi_eqN (by omega)] at h26 | rw [zi_Neq (by omega)] at h26 | rw [zi_eq] at h26
          exfalso; omega
      · first | rw [zb_0d] at h17 | rw [zn_eq0 (by omega)] at h17 | rw [zi_eq0] at h17
        exfalso; omega
    · first | rw [nI_eq (by omega) (by omega)] at h7 | rw [zi_eqN (by omega)] at h7 | rw [zi_Neq (by omega)] at h7 | rw [zi_eq] at h7
      exfalso; omega

theorem c_X12_isSo {E : zE} {σ : zT} {V : zV} {ρ : Nat → Nat} {c a v : Nat} (hE : EnvR σ V) (hw : RwIs σ 7 ρ) (hok : RowOK (vN V) ρ) (hc : c < vC V) (ha : a ≤ 2) (hv : v ≤ 9) (hv2 : a = 2 → v ≤ 1) : CalM E 7 yX12_isSo cX12_isSo 4 (some .boolean) [.ref (zA E 33 0), .int (nI c), .int (nI a), .int (nI v)] σ (fun r σ' => r = some (.int (zb (fit1 a v (vK V c) (vL V c) (gos V ρ c).isSome))) ∧ Fr9 [27, 28] [13, 14] σ σ') := by
  refine cal_of_go (own := RX12) rfl (by decide +kernel) (Nat.le_of_ble_eq_true rfl) ?_
  have hB := hE.2.1.2.2 c hc
  have hc8 := hE.2.1.1
  refine go_iload_n (i := 2) (pc := 0) dX12_isSo_0 rfl rfl ?_
  rcases (show a = 0 ∨ a = 1 ∨ (a ≠ 0 ∧ a ≠ 1) by omega) with h1 | h1 | h1
  · refine go_lookup (off := 27) 28 (pc := 1) dX12_isSo_1 (by decide) (by rw [nI_toInt (by omega)]; rw [h1]; rfl) (by decide) ?_
    refine go_aload_n (i := 0) (pc := 28) dX12_isSo_28 rfl rfl ?_
    refine go_getr2 fl_X12_24 (pc := 29) dX12_isSo_29 (by rfl) (by rfl) (by rfl) ?_
    refine go_iload_n (i := 1) (pc := 32) dX12_isSo_32 rfl rfl ?_
    refine go_iaload _ (pc := 33) dX12_isSo_33 (by first | rfl | (apply zM_ar <;> assumption)) (by first | rfl | (apply zM_jn <;> assumption)) rfl (by first | assumption | omega) ?_
    rw [hB.1]
    refine go_iload_n (i := 3) (pc := 34) dX12_isSo_34 rfl rfl ?_
    refine go_icmp_ne 42 (pc := 35) dX12_isSo_35 (by decide) (fun h35 => ?_) (fun h35 => ?_)
    · first | rw [nI_eq (by omega) (by omega)] at h35 | rw [zi_eqN (by omega)] at h35 | rw [zi_Neq (by omega)] at h35 | rw [zi_eq] at h35
      refine go_iconst (nI 0) (pc := 42) dX12_isSo_42 (by decide) ?_
      refine go_zreturn (pc := 43) dX12_isSo_43 rfl rfl ?_
      refine ⟨?_, Fr9.rf⟩
      rw [show fit1 a v (vK V c) (vL V c) (gos V ρ c).isSome = decide (vK V c = v) from if_pos h1]
      first | exact zr_t (by omega) | exact zr_f (by omega)
    · first | rw [nI_eq (by omega) (by omega)] at h35 | rw [zi_eqN (by omega)] at h35 | rw [zi_Neq (by omega)] at h35 | rw [zi_eq] at h35
      refine go_iconst (nI 1) (pc := 38) dX12_isSo_38 (by decide) ?_
      refine go_goto 43 (pc := 39) dX12_isSo_39 (by decide) ?_
      refine go_zreturn (pc := 43) dX12_isSo_43 rfl rfl ?_
      refine ⟨?_, Fr9.rf⟩
      rw [show fit1 a v (vK V c) (vL V c) (gos V ρ c).isSome = decide (vK V c = v) from if_pos h1]
      first | exact zr_t (by omega) | exact zr_f (by omega)
  · refine go_lookup (off := 43) 44 (pc := 1) dX12_isSo_1 (by decide) (by rw [nI_toInt (by omega)]; rw [h1]; rfl) (by decide) ?_
    refine go_aload_n (i := 0) (pc := 44) dX12_isSo_44 rfl rfl ?_
    refine go_getr2 fl_X12_27 (pc := 45) dX12_isSo_45 (by rfl) (by rfl) (by rfl) ?_
    refine go_iload_n (i := 1) (pc := 48) dX12_isSo_48 rfl rfl ?_
    refine go_iaload _ (pc := 49) dX12_isSo_49 (by first | rfl | (apply zM_ar <;> assumption)) (by first | rfl | (apply zM_jn <;> assumption)) rfl (by first | assumption | omega) ?_
    rw [hB.2.1]
    refine go_iload_n (i := 3) (pc := 50) dX12_isSo_50 rfl rfl ?_
    refine go_icmp_lt 58 (pc := 51) dX12_isSo_51 (by decide) (fun h51 => ?_) (fun h51 => ?_)
    · first | rw [nI_ltI (by omega) (by omega)] at h51 | rw [zi_ltN (by omega)] at h51 | rw [zi_Nlt (by omega)] at h51 | rw [zi_lt] at h51
      refine go_iconst (nI 0) (pc := 58) dX12_isSo_58 (by decide) ?_
      refine go_zreturn (pc := 59) dX12_isSo_59 rfl rfl ?_
      refine ⟨?_, Fr9.rf⟩
      rw [show fit1 a v (vK V c) (vL V c) (gos V ρ c).isSome = decide (v ≤ vL V c) from (if_neg (by omega)).trans (if_pos h1)]
      first | exact zr_t (by omega) | exact zr_f (by omega)
    · first | rw [nI_ltI (by omega) (by omega)] at h51 | rw [zi_ltN (by omega)] at h51 | rw [zi_Nlt (by omega)] at h51 | rw [zi_lt] at h51
      refine go_iconst (nI 1) (pc := 54) dX12_isSo_54 (by decide) ?_
      refine go_goto 59 (pc := 55) dX12_isSo_55 (by decide) ?_
      refine go_zreturn (pc := 59) dX12_isSo_59 rfl rfl ?_
      refine ⟨?_, Fr9.rf⟩
      rw [show fit1 a v (vK V c) (vL V c) (gos V ρ c).isSome = decide (v ≤ vL V c) from (if_neg (by omega)).trans (if_pos h1)]
      first | exact zr_t (by omega) | exact zr_f (by omega)
  · refine go_lookup (off := 59) 60 (pc := 1) dX12_isSo_1 (by decide) (by rw [nI_toInt (by omega)]; show Op.lookupswitch.offset [(0, 27), (1, 43)] (59) _ = _; rw [Op.lookupswitch.offset_cons, if_neg (by omega), Op.lookupswitch.offset_cons, if_neg (by omega)]; rfl) (by decide) ?_
    refine go_aload_n (i := 0) (pc := 60) dX12_isSo_60 rfl rfl ?_
    refine go_aload_n (i := 0) (pc := 61) dX12_isSo_61 rfl rfl ?_
    refine go_getr2 fl_X12_36 (pc := 62) dX12_isSo_62 (by rfl) (by rfl) (by rfl) ?_
    refine go_iload_n (i := 1) (pc := 65) dX12_isSo_65 rfl rfl ?_
    refine go_callV ml_X12_289 mt_X12_worthOf (pc := 66) dX12_isSo_66 (c_X12_worthOf (j := 7) hE hw hok rfl hc) (by rfl) rfl (by rfl) (by decide) (by decide) rfl rfl (Nat.le_of_ble_eq_true rfl) (fun r σ' hp => ?_)
    obtain ⟨rfl, -, -, hF⟩ := hp
    dsimp only [zRet]
    refine go_if_le 76 (pc := 69) dX12_isSo_69 (by decide) (fun h69 => ?_) (fun h69 => ?_)
    · rw [wI_le (hE.vok hok) hok hc] at h69
      refine go_iconst (nI 0) (pc := 76) dX12_isSo_76 (by decide) ?_
      refine go_callS ml_X12_136 mt_X12_flag (pc := 77) dX12_isSo_77 (c_flagN (by decide)) (by decide) (by decide) rfl rfl (Nat.le_of_ble_eq_true rfl) (fun r σ' hp => ?_)
      obtain ⟨rfl, hσ⟩ := hp
      rw [hσ]
      clear hσ
      dsimp only [zRet]
      refine go_iload_n (i := 3) (pc := 80) dX12_isSo_80 rfl rfl ?_
      refine go_icmp_ne 88 (pc := 81) dX12_isSo_81 (by decide) (fun h81 => ?_) (fun h81 => ?_)
      · first | rw [nI_eq (by omega) (by omega)] at h81 | rw [zi_eqN (by omega)] at h81 | rw [zi_Neq (by omega)] at h81 | rw [zi_eq] at h81
        refine go_iconst (nI 0) (pc := 88) dX12_isSo_88 (by decide) ?_
        refine go_zreturn (pc := 89) dX12_isSo_89 rfl rfl ?_
        refine ⟨?_, hF⟩
        have hv1 := hv2 (by omega)
        rw [show fit1 a v (vK V c) (vL V c) (gos V ρ c).isSome = ((gos V ρ c).isSome == decide (v = 1)) from (if_neg (by omega)).trans (if_neg (by omega))]
        first
          | (rw [h69]
             have hvv : v = 0 ∨ v = 1 := by omega
             rcases hvv with rfl | rfl <;> first | rfl | (exfalso; omega))
          | (rw [hgs]
             have hvv : v = 0 ∨ v = 1 := by omega
             rcases hvv with rfl | rfl <;> first | rfl | (exfalso; omega))
      · first | rw [nI_eq (by omega) (by omega)] at h81 | rw [zi_eqN (by omega)] at h81 | rw [zi_Neq (by omega)] at h81 | rw [zi_eq] at h81
        refine go_iconst (nI 1) (pc := 84) dX12_isSo_84 (by decide) ?_
        refine go_goto 89 (pc := 85) dX12_isSo_85 (by decide) ?_
        refine go_zreturn (pc := 89) dX12_isSo_89 rfl rfl ?_
        refine ⟨?_, hF⟩
        have hv1 := hv2 (by omega)
        rw [show fit1 a v (vK V c) (vL V c) (gos V ρ c).isSome = ((gos V ρ c).isSome == decide (v = 1)) from (if_neg (by omega)).trans (if_neg (by omega))]
        first
          | (rw [h69]
             have hvv : v = 0 ∨ v = 1 := by omega
             rcases hvv with rfl | rfl <;> first | rfl | (exfalso; omega))
          | (rw [hgs]
             have hvv : v = 0 ∨ v = 1 := by omega
             rcases hvv with rfl | rfl <;> first | rfl | (exfalso; omega))
    · rw [wI_le (hE.vok hok) hok hc] at h69
      obtain ⟨b, hgs⟩ := Option.ne_none_iff_exists'.mp h69
      refine go_iconst (nI 1) (pc := 72) dX12_isSo_72 (by decide) ?_
      refine go_goto 77 (pc := 73) dX12_isSo_73 (by decide) ?_
      refine go_callS ml_X12_136 mt_X12_flag (pc := 77) dX12_isSo_77 (c_flagN (by decide)) (by decide) (by decide) rfl rfl (Nat.le_of_ble_eq_true rfl) (fun r σ' hp => ?_)
      obtain ⟨rfl, hσ⟩ := hp
      rw [hσ]
      clear hσ
      dsimp only [zRet]
      refine go_iload_n (i := 3) (pc := 80) dX12_isSo_80 rfl rfl ?_
      refine go_icmp_ne 88 (pc := 81) dX12_isSo_81 (by decide) (fun h81 => ?_) (fun h81 => ?_)
      · first | rw [nI_eq (by omega) (by omega)] at h81 | rw [zi_eqN (by omega)] at h81 | rw [zi_Neq (by omega)] at h81 | rw [zi_eq] at h81
        refine go_iconst (nI 0) (pc := 88) dX12_isSo_88 (by decide) ?_
        refine go_zreturn (pc := 89) dX12_isSo_89 rfl rfl ?_
        refine ⟨?_, hF⟩
        have hv1 := hv2 (by omega)
        rw [show fit1 a v (vK V c) (vL V c) (gos V ρ c).isSome = ((gos V ρ c).isSome == decide (v = 1)) from (if_neg (by omega)).trans (if_neg (by omega))]
        first
          | (rw [h69]
             have hvv : v = 0 ∨ v = 1 := by omega
             rcases hvv with rfl | rfl <;> first | rfl | (exfalso; omega))
          | (rw [hgs]
             have hvv : v = 0 ∨ v = 1 := by omega
             rcases hvv with rfl | rfl <;> first | rfl | (exfalso; omega))
      · first | rw [nI_eq (by omega) (by omega)] at h81 | rw [zi_eqN (by omega)] at h81 | rw [zi_Neq (by omega)] at h81 | rw [zi_eq] at h81
        refine go_iconst (nI 1) (pc := 84) dX12_isSo_84 (by decide) ?_
        refine go_goto 89 (pc := 85) dX12_isSo_85 (by decide) ?_
        refine go_zreturn (pc := 89) dX12_isSo_89 rfl rfl ?_
        refine ⟨?_, hF⟩
        have hv1 := hv2 (by omega)
        rw [show fit1 a v (vK V c) (vL V c) (gos V ρ c).isSome = ((gos V ρ c).isSome == decide (v = 1)) from (if_neg (by omega)).trans (if_neg (by omega))]
        first
          | (rw [h69]
             have hvv : v = 0 ∨ v = 1 := by omega
             rcases hvv with rfl | rfl <;> first | rfl | (exfalso; omega))
          | (rw [hgs]
             have hvv : v = 0 ∨ v = 1 := by omega
             rcases hvv with rfl | rfl <;> first | rfl | (exfalso; omega))

theorem c_X12_fitting {E : zE} {σ : zT} {V : zV} {ρ : Nat → Nat} {ru : Nat × (Nat → Nat) × (Nat → Nat)} (hE : EnvR σ V) (hw : RwIs σ 7 ρ) (hok : RowOK (vN V) ρ) (hH : HearIs σ ru.1 ru.2.1 ru.2.2) : CalM E 8 yX12_fitting cX12_fitting 5 (some .int) [.ref (zA E 33 0)] σ (fun r σ' => r = some (.int (nI (fitB V ρ ru (vC V)))) ∧ Fr9 [27, 28] [13, 14] σ σ') := by
  refine cal_of_go (own := RX12) rfl (by decide +kernel) (Nat.le_of_ble_eq_true rfl) ?_
  have hc8 := hE.2.1.1
  have h12 := hH.1
  have loop : ∀ (i : Nat) (τ : zT), i ≤ vC V → Fr9 [27, 28] [13, 14] σ τ → GoM E 8 RX12 cX12_fitting 5 (some .int) (fun r σ' => r = some (.int (nI (fitB V ρ ru (vC V)))) ∧ Fr9 [27, 28] [13, 14] σ σ') τ 4 [(0, .ref (zA E 33 0)), (1, .int (nI (sumN i (fun c => if fitA ru.2.1 ru.2.2 (vK V c) (vL V c) (gos V ρ c).isSome ru.1 then 2 ^ c else 0)))), (2, .int (nI i))] [] := by
    intro i
    induction hz : vC V - i using Nat.strongRecOn generalizing i with
    | ind z iho =>
      intro τ hi hF
      have hEt := hE.fr hF (by decide) (by decide)
      have hb := bits_lt (b := fun c => fitA ru.2.1 ru.2.2 (vK V c) (vL V c) (gos V ρ c).isSome ru.1 = true) i
      refine go_iload_n (i := 2) (pc := 4) dX12_fitting_4 rfl rfl ?_
      refine go_aload_n (i := 0) (pc := 5) dX12_fitting_5 rfl rfl ?_
      refine go_geti fl_X12_111 (pc := 6) dX12_fitting_6 (by rfl) ?_
      rw [hEt.2.1.2.1]
      refine go_icmp_ge 84 (pc := 9) dX12_fitting_9 (by decide) (fun h9 => ?_) (fun h9 => ?_)
      · first | rw [nI_leI (by omega) (by omega)] at h9 | rw [zi_leN (by omega)] at h9 | rw [zi_Nle (by omega)] at h9 | rw [zi_le] at h9
        have e : i = vC V := by omega
        subst e
        refine go_iload_n (i := 1) (pc := 84) dX12_fitting_84 rfl rfl ?_
        refine go_ireturn (pc := 85) dX12_fitting_85 rfl ?_
        exact ⟨rfl, hF⟩
      · first | rw [nI_leI (by omega) (by omega)] at h9 | rw [zi_leN (by omega)] at h9 | rw [zi_Nle (by omega)] at h9 | rw [zi_le] at h9
        have inner : ∀ (k : Nat) (τ : zT), k ≤ ru.1 → (Fr9 [27, 28] [13, 14] σ τ) → GoM E 8 RX12 cX12_fitting 5 (some .int) (fun r σ' => r = some (.int (nI (fitB V ρ ru (vC V)))) ∧ Fr9 [27, 28] [13, 14] σ σ') τ 17 [(0, .ref (zA E 33 0)), (1, .int (nI (sumN i (fun c => if fitA ru.2.1 ru.2.2 (vK V c) (vL V c) (gos V ρ c).isSome ru.1 then 2 ^ c else 0)))), (2, .int (nI i)), (3, .int (zb (fitA ru.2.1 ru.2.2 (vK V i) (vL V i) (gos V ρ i).isSome k))), (4, .int (nI k))] [] := by
          intro k
          induction hzk : ru.1 - k using Nat.strongRecOn generalizing k with
          | ind z ih =>
            intro τ hi hF
            have hEt := hE.fr hF (by decide) (by decide)
            have hHt := hH.fr hF (by decide) (by decide) (by decide)
            refine go_iload (pc := 17) dX12_fitting_17 rfl ?_
            refine go_aload_n (i := 0) (pc := 19) dX12_fitting_19 rfl rfl ?_
            refine go_geti fl_X12_410 (pc := 20) dX12_fitting_20 (by rfl) ?_
            rw [hHt.2.1]
            have hk := hHt.2.2 k
            refine go_icmp_ge 64 (pc := 23) dX12_fitting_23 (by decide) (fun h23 => ?_) (fun h23 => ?_)
            · first | rw [nI_leI (by omega) (by omega)] at h23 | rw [zi_leN (by omega)] at h23 | rw [zi_Nle (by omega)] at h23 | rw [zi_le] at h23
              have e : k = ru.1 := by omega
              subst e
              refine go_iload_n (i := 1) (pc := 64) dX12_fitting_64 rfl rfl ?_
              refine go_iload_n (i := 3) (pc := 65) dX12_fitting_65 rfl rfl ?_
              refine go_if_eq 75 (pc := 66) dX12_fitting_66 (by decide) (fun h66 => ?_) (fun h66 => ?_)
              · rw [zb_0] at h66
                have es : sumN (i + 1) (fun c => if fitA ru.2.1 ru.2.2 (vK V c) (vL V c) (gos V ρ c).isSome ru.1 then 2 ^ c else 0) = sumN i (fun c => if fitA ru.2.1 ru.2.2 (vK V c) (vL V c) (gos V ρ c).isSome ru.1 then 2 ^ c else 0) := by rw [sumN, if_neg (by rw [h66]; decide), Nat.add_zero]
                refine go_iconst (nI 0) (pc := 75) dX12_fitting_75 (by decide) ?_
                refine go_ior (pc := 76) dX12_fitting_76 ?_
                first | rw [zor2 hb (by omega)] | rw [zorN, Nat.or_zero]
                refine go_istore_n (i := 1) (pc := 77) dX12_fitting_77 rfl (by decide) ?_
                refine go_iincN (pc := 78) dX12_fitting_78 rfl (by decide) ?_
                refine go_goto 4 (pc := 81) dX12_fitting_81 (by decide) ?_
                rw [← es]
                refine go_drop [0, 1, 2] rfl ?_
                exact iho (vC V - (i + 1)) (by omega) (i + 1) rfl _ (by omega) hF
              · rw [zb_0] at h66
                have es : sumN (i + 1) (fun c => if fitA ru.2.1 ru.2.2 (vK V c) (vL V c) (gos V ρ c).isSome ru.1 then 2 ^ c else 0) = sumN i (fun c => if fitA ru.2.1 ru.2.2 (vK V c) (vL V c) (gos V ρ c).isSome ru.1 then 2 ^ c else 0) + 2 ^ i := by rw [sumN, if_pos (by simpa using h66)]
                refine go_iconst (nI 1) (pc := 69) dX12_fitting_69 (by decide) ?_
                refine go_iload_n (i := 2) (pc := 70) dX12_fitting_70 rfl rfl ?_
                refine go_ishl (pc := 71) dX12_fitting_71 ?_
                refine go_goto 76 (pc := 72) dX12_fitting_72 (by decide) ?_
                refine go_ior (pc := 76) dX12_fitting_76 ?_
                first | rw [zor2 hb (by omega)] | rw [zorN, Nat.or_zero]
                refine go_istore_n (i := 1) (pc := 77) dX12_fitting_77 rfl (by decide) ?_
                refine go_iincN (pc := 78) dX12_fitting_78 rfl (by decide) ?_
                refine go_goto 4 (pc := 81) dX12_fitting_81 (by decide) ?_
                rw [← es]
                refine go_drop [0, 1, 2] rfl ?_
                exact iho (vC V - (i + 1)) (by omega) (i + 1) rfl _ (by omega) hF
            · first | rw [nI_leI (by omega) (by omega)] at h23 | rw [zi_leN (by omega)] at h23 | rw [zi_Nle (by omega)] at h23 | rw [zi_le] at h23
              refine go_iload_n (i := 3) (pc := 26) dX12_fitting_26 rfl rfl ?_
              refine go_if_eq 56 (pc := 27) dX12_fitting_27 (by decide) (fun h27 => ?_) (fun h27 => ?_)
              · rw [zb_0] at h27
                have es : fitA ru.2.1 ru.2.2 (vK V i) (vL V i) (gos V ρ i).isSome (k + 1) = false := by rw [fitA, h27]; rfl
                refine go_iconst (nI 0) (pc := 56) dX12_fitting_56 (by decide) ?_
                refine go_istore_n (i := 3) (pc := 57) dX12_fitting_57 rfl (by decide) ?_
                refine go_iincN (pc := 58) dX12_fitting_58 rfl (by decide) ?_
                refine go_goto 17 (pc := 61) dX12_fitting_61 (by decide) ?_
                refine go_at rfl (show _ = [(0, .ref (zA E 33 0)), (1, .int (nI (sumN i (fun c => if fitA ru.2.1 ru.2.2 (vK V c) (vL V c) (gos V ρ c).isSome ru.1 then 2 ^ c else 0)))), (2, .int (nI i)), (3, .int (zb (fitA ru.2.1 ru.2.2 (vK V i) (vL V i) (gos V ρ i).isSome (k + 1)))), (4, .int (nI (k + 1)))] by rw [es]; rfl) rfl ?_
                exact ih (ru.1 - (k + 1)) (by omega) (k + 1) rfl _ (by omega) hF
              · rw [zb_0] at h27
                have h27 : fitA ru.2.1 ru.2.2 (vK V i) (vL V i) (gos V ρ i).isSome k = true := by simpa using h27
                refine go_aload_n (i := 0) (pc := 30) dX12_fitting_30 rfl rfl ?_
                refine go_iload_n (i := 2) (pc := 31) dX12_fitting_31 rfl rfl ?_
                refine go_aload_n (i := 0) (pc := 32) dX12_fitting_32 rfl rfl ?_
                refine go_getr2 fl_X12_81 (pc := 33) dX12_fitting_33 (by rfl) (by rfl) (by rfl) ?_
                refine go_iload (pc := 36) dX12_fitting_36 rfl ?_
                refine go_iaload _ (pc := 38) dX12_fitting_38 (by first | rfl | (apply zM_ar <;> assumption)) (by first | rfl | (apply zM_jn <;> assumption)) rfl (by first | assumption | omega) ?_
                have hk := hk (by omega)
                rw [hk.1]
                refine go_aload_n (i := 0) (pc := 39) dX12_fitting_39 rfl rfl ?_
                refine go_getr2 fl_X12_84 (pc := 40) dX12_fitting_40 (by rfl) (by rfl) (by rfl) ?_
                refine go_iload (pc := 43) dX12_fitting_43 rfl ?_
                refine go_iaload _ (pc := 45) dX12_fitting_45 (by first | rfl | (apply zM_ar <;> assumption)) (by first | rfl | (apply zM_jn <;> assumption)) rfl (by first | assumption | omega) ?_
                rw [hk.2.1]
                refine go_callV ml_X12_413 mt_X12_isSo (pc := 46) dX12_fitting_46 (c_X12_isSo hEt (hw.fr hF (by decide)) hok (by omega) hk.2.2.1 hk.2.2.2.1 hk.2.2.2.2) (by rfl) rfl (by rfl) (by decide) (by decide) rfl rfl (Nat.le_of_ble_eq_true rfl) (fun r σ' hp => ?_)
                obtain ⟨rfl, hFd⟩ := hp
                dsimp only [zRet]
                have hF := hF.tr hFd
                refine go_if_eq 56 (pc := 49) dX12_fitting_49 (by decide) (fun h49 => ?_) (fun h49 => ?_)
                · rw [zb_0] at h49
                  have es : fitA ru.2.1 ru.2.2 (vK V i) (vL V i) (gos V ρ i).isSome (k + 1) = false := by rw [fitA, h27, h49]; rfl
                  refine go_iconst (nI 0) (pc := 56) dX12_fitting_56 (by decide) ?_
                  refine go_istore_n (i := 3) (pc := 57) dX12_fitting_57 rfl (by decide) ?_
                  refine go_iincN (pc := 58) dX12_fitting_58 rfl (by decide) ?_
                  refine go_goto 17 (pc := 61) dX12_fitting_61 (by decide) ?_
                  refine go_at rfl (show _ = [(0, .ref (zA E 33 0)), (1, .int (nI (sumN i (fun c => if fitA ru.2.1 ru.2.2 (vK V c) (vL V c) (gos V ρ c).isSome ru.1 then 2 ^ c else 0)))), (2, .int (nI i)), (3, .int (zb (fitA ru.2.1 ru.2.2 (vK V i) (vL V i) (gos V ρ i).isSome (k + 1)))), (4, .int (nI (k + 1)))] by rw [es]; rfl) rfl ?_
                  exact ih (ru.1 - (k + 1)) (by omega) (k + 1) rfl _ (by omega) hF
                · rw [zb_0] at h49
                  have es : fitA ru.2.1 ru.2.2 (vK V i) (vL V i) (gos V ρ i).isSome (k + 1) = true := by rw [fitA, h27]; simpa using h49
                  refine go_iconst (nI 1) (pc := 52) dX12_fitting_52 (by decide) ?_
                  refine go_goto 57 (pc := 53) dX12_fitting_53 (by decide) ?_
                  refine go_istore_n (i := 3) (pc := 57) dX12_fitting_57 rfl (by decide) ?_
                  refine go_iincN (pc := 58) dX12_fitting_58 rfl (by decide) ?_
                  refine go_goto 17 (pc := 61) dX12_fitting_61 (by decide) ?_
                  refine go_at rfl (show _ = [(0, .ref (zA E 33 0)), (1, .int (nI (sumN i (fun c => if fitA ru.2.1 ru.2.2 (vK V c) (vL V c) (gos V ρ c).isSome ru.1 then 2 ^ c else 0)))), (2, .int (nI i)), (3, .int (zb (fitA ru.2.1 ru.2.2 (vK V i) (vL V i) (gos V ρ i).isSome (k + 1)))), (4, .int (nI (k + 1)))] by rw [es]; rfl) rfl ?_
                  exact ih (ru.1 - (k + 1)) (by omega) (k + 1) rfl _ (by omega) hF
        refine go_iconst (nI 1) (pc := 12) dX12_fitting_12 (by decide) ?_
        refine go_istore_n (i := 3) (pc := 13) dX12_fitting_13 rfl (by decide) ?_
        refine go_iconst (nI 0) (pc := 14) dX12_fitting_14 (by decide) ?_
        refine go_istore (pc := 15) dX12_fitting_15 (by decide) ?_
        exact inner 0 τ (by omega) hF
  refine go_iconst (nI 0) (pc := 0) dX12_fitting_0 (by decide) ?_
  refine go_istore_n (i := 1) (pc := 1) dX12_fitting_1 rfl (by decide) ?_
  refine go_iconst (nI 0) (pc := 2) dX12_fitting_2 (by decide) ?_
  refine go_istore_n (i := 2) (pc := 3) dX12_fitting_3 rfl (by decide) ?_
  exact loop 0 σ (by omega) Fr9.rf

theorem c_X12_fits {E : zE} {σ : zT} {tx : Nat × (Nat → Nat)} {bd : Nat × (Nat → Nat) × (Nat → Nat)} {sk : Nat × (Nat → Nat)} {tw : Nat × (Nat → Nat) × (Nat → Nat)} {xs : List Nat} {ld : Nat × (Nat → Nat)} {pa sh : Nat × (Nat → Nat → Nat)} {ru : Nat × (Nat → Nat) × (Nat → Nat)} {to : Nat × (Nat → Int64)} (hC : RefIs σ tx bd sk tw xs ld pa sh ru to) : CalM E 9 yX12_fits cX12_fits 4 (some .int) [.ref (zA E 33 0)] σ (fun r σ' => r = some (.int (nI (fitB (vOf bd sk xs ld.1) ld.2 ru bd.1))) ∧ RefIs σ' tx bd sk tw xs ld pa sh ru (2, ln2 (lN (bcn (fitB (vOf bd sk xs ld.1) ld.2 ru bd.1))) (lN (loadsB bd.2.2 (fitB (vOf bd sk xs ld.1) ld.2 ru bd.1) bd.1))) ∧ FrG [33] σ σ') := by
  refine cal_of_go (own := RX12) rfl (by decide +kernel) (Nat.le_of_ble_eq_true rfl) ?_
  have hN := hC.2.2.2.2.2.1
  have hn : 1 ≤ ld.1 ∧ ld.1 ≤ 12 := ⟨hN.2.1.1, hN.2.1.2.1⟩
  have hV := hC.env.vok hN.2.1
  have hok := hN.2.1
  have hB := hC.2.2.1
  have hc8 := hB.1
  have hfb : (fitB (vOf bd sk xs ld.1) ld.2 ru bd.1) < 2 ^ 8 := Nat.lt_of_lt_of_le (bits_lt (b := fun c => fitA ru.2.1 ru.2.2 (vK (vOf bd sk xs ld.1) c) (vL (vOf bd sk xs ld.1) c) (gos (vOf bd sk xs ld.1) ld.2 c).isSome ru.1 = true) bd.1) (Nat.pow_le_pow_right (by decide) hc8)
  have hfbn : (fitB (vOf bd sk xs ld.1) ld.2 ru bd.1) < 2 ^ bd.1 := bits_lt (b := fun c => fitA ru.2.1 ru.2.2 (vK (vOf bd sk xs ld.1) c) (vL (vOf bd sk xs ld.1) c) (gos (vOf bd sk xs ld.1) ld.2 c).isSome ru.1 = true) bd.1
  have hfb12 : (fitB (vOf bd sk xs ld.1) ld.2 ru bd.1) < 2 ^ 12 := Nat.lt_of_lt_of_le hfb (by decide)
  have hbc : ∀ s, bcn s ≤ 12 * 1 := fun s => sumN_le (c := 1) (fun i _ => by split <;> omega)
  have hbc0 := hbc (fitB (vOf bd sk xs ld.1) ld.2 ru bd.1)
  have hlb : ∀ i, i ≤ bd.1 → sumN i (fun c => if ((fitB (vOf bd sk xs ld.1) ld.2 ru bd.1)).testBit c then bd.2.2 c else 0) ≤ 8 * 9 := fun i hi => Nat.le_trans (sumN_le (c := 9) (fun q hq => by have := (hB.2.2 q (by omega)).2.2.2.2; split <;> omega)) (Nat.mul_le_mul_right 9 (by omega))
  have hlb0 : loadsB bd.2.2 (fitB (vOf bd sk xs ld.1) ld.2 ru bd.1) bd.1 ≤ 72 := hlb bd.1 (Nat.le_refl _)
  have loop : ∀ (i : Nat) (τ : zT), i ≤ bd.1 → (Fr9 [0, 27, 28] [13, 14, 16, 8] σ τ) → GoM E 9 RX12 cX12_fits 4 (some .int) (fun r σ' => r = some (.int (nI (fitB (vOf bd sk xs ld.1) ld.2 ru bd.1))) ∧ RefIs σ' tx bd sk tw xs ld pa sh ru (2, ln2 (lN (bcn (fitB (vOf bd sk xs ld.1) ld.2 ru bd.1))) (lN (loadsB bd.2.2 (fitB (vOf bd sk xs ld.1) ld.2 ru bd.1) bd.1))) ∧ FrG [33] σ σ') τ 14 [(0, .ref (zA E 33 0)), (1, .int (nI (fitB (vOf bd sk xs ld.1) ld.2 ru bd.1))), (2, .int (nI (sumN i (fun c => if ((fitB (vOf bd sk xs ld.1) ld.2 ru bd.1)).testBit c then bd.2.2 c else 0)))), (3, .int (nI i))] [] := by
    intro i
    induction hz : bd.1 - i using Nat.strongRecOn generalizing i with
    | ind z ih =>
      intro τ hi hF
      have hCt := hC.fr hF (by decide) (by decide)
      have hli := hlb i hi
      refine go_iload_n (i := 3) (pc := 14) dX12_fits_14 rfl rfl ?_
      refine go_aload_n (i := 0) (pc := 15) dX12_fits_15 rfl rfl ?_
      refine go_geti fl_X12_111 (pc := 16) dX12_fits_16 (by rfl) ?_
      rw [hCt.2.2.1.2.1]
      refine go_icmp_ge 49 (pc := 19) dX12_fits_19 (by decide) (fun h19 => ?_) (fun h19 => ?_)
      · first | rw [nI_leI (by omega) (by omega)] at h19 | rw [zi_leN (by omega)] at h19 | rw [zi_Nle (by omega)] at h19 | rw [zi_le] at h19
        have e : i = bd.1 := by omega
        subst e
        refine go_aload_n (i := 0) (pc := 49) dX12_fits_49 rfl rfl ?_
        refine go_iconst (nI 0) (pc := 50) dX12_fits_50 (by decide) ?_
        refine go_puti fp_X12_104 (pc := 51) dX12_fits_51 (by rfl) rfl rfl ?_
        have hFt : Fr9 [0, 1, 27, 28] [1, 13, 14, 16, 8] σ (uS τ 33 1 (nI 0)) := (hF.mono (by simp) (by simp)).uS (by simp)
        have hz1 : (uS τ 33 1 (nI 0)).1 33 1 = nI 0 := uS_s _ _ _ _
        refine go_aload_n (i := 0) (pc := 54) dX12_fits_54 rfl rfl ?_
        refine go_iload_n (i := 1) (pc := 55) dX12_fits_55 rfl rfl ?_
        refine go_callS ml_X12_305 mt_J6_bitCount_0f7a4 (pc := 56) dX12_fits_56 (c_bc hfb12) (by decide) (by decide) rfl rfl (Nat.le_of_ble_eq_true rfl) (fun r σ' hp => ?_)
        obtain ⟨rfl, hσ⟩ := hp
        rw [hσ]
        clear hσ
        dsimp only [zRet]
        refine go_i2l (pc := 59) dX12_fits_59 ?_
        rw [nI_l (by omega)]
        refine go_callV ml_X12_333 mt_X12_enters (pc := 60) dX12_fits_60 (c_tell1 hz1) (by rfl) rfl (by rfl) (by decide) (by decide) rfl rfl (Nat.le_of_ble_eq_true rfl) (fun r σ' hp => ?_)
        obtain ⟨rfl, hT1, hF1⟩ := hp
        dsimp only [zRet]
        have hFu := hFt.tr (hF1.mono (by simp) (by simp))
        refine go_aload_n (i := 0) (pc := 63) dX12_fits_63 rfl rfl ?_
        refine go_iload_n (i := 2) (pc := 64) dX12_fits_64 rfl rfl ?_
        refine go_i2l (pc := 65) dX12_fits_65 ?_
        rw [nI_l (by omega)]
        refine go_callV ml_X12_333 mt_X12_enters (pc := 66) dX12_fits_66 (c_tell2 hT1) (by rfl) rfl (by rfl) (by decide) (by decide) rfl rfl (Nat.le_of_ble_eq_true rfl) (fun r σ' hp => ?_)
        obtain ⟨rfl, hT2, hF2⟩ := hp
        dsimp only [zRet]
        have hFv := hFu.tr (hF2.mono (by simp) (by simp))
        refine go_iload_n (i := 1) (pc := 69) dX12_fits_69 rfl rfl ?_
        refine go_ireturn (pc := 70) dX12_fits_70 rfl ?_
        exact ⟨rfl, hC.tell hFv (by decide) (by decide) hT2, hFv.1⟩
      · first | rw [nI_leI (by omega) (by omega)] at h19 | rw [zi_leN (by omega)] at h19 | rw [zi_Nle (by omega)] at h19 | rw [zi_le] at h19
        refine go_iload_n (i := 2) (pc := 22) dX12_fits_22 rfl rfl ?_
        refine go_iload_n (i := 1) (pc := 23) dX12_fits_23 rfl rfl ?_
        refine go_iload_n (i := 3) (pc := 24) dX12_fits_24 rfl rfl ?_
        refine go_callS ml_X12_114 mt_X12_has (pc := 25) dX12_fits_25 (c_X12_has hfb12 (by omega)) (by decide) (by decide) rfl rfl (Nat.le_of_ble_eq_true rfl) (fun r σ' hp => ?_)
        obtain ⟨rfl, hσ⟩ := hp
        rw [hσ]
        clear hσ
        dsimp only [zRet]
        refine go_if_eq 40 (pc := 28) dX12_fits_28 (by decide) (fun h28 => ?_) (fun h28 => ?_)
        · rw [zb_0] at h28
          have es : sumN (i + 1) (fun c => if ((fitB (vOf bd sk xs ld.1) ld.2 ru bd.1)).testBit c then bd.2.2 c else 0) = sumN i (fun c => if ((fitB (vOf bd sk xs ld.1) ld.2 ru bd.1)).testBit c then bd.2.2 c else 0) + 0 := by rw [sumN, if_neg (by rw [h28]; decide)]
          refine go_iconst (nI 0) (pc := 40) dX12_fits_40 (by decide) ?_
          first | with_reducible refine go_iaddN (pc := 41) dX12_fits_41 ?_ | refine go_iadd (pc := 41) dX12_fits_41 ?_
          refine go_istore_n (i := 2) (pc := 42) dX12_fits_42 rfl (by decide) ?_
          refine go_iincN (pc := 43) dX12_fits_43 rfl (by decide) ?_
          refine go_goto 14 (pc := 46) dX12_fits_46 (by decide) ?_
          rw [← es]
          exact ih (bd.1 - (i + 1)) (by omega) (i + 1) rfl _ (by omega) hF
        · rw [zb_0] at h28
          have es : sumN (i + 1) (fun c => if ((fitB (vOf bd sk xs ld.1) ld.2 ru bd.1)).testBit c then bd.2.2 c else 0) = sumN i (fun c => if ((fitB (vOf bd sk xs ld.1) ld.2 ru bd.1)).testBit c then bd.2.2 c else 0) + bd.2.2 i := by rw [sumN, if_pos (by simpa using h28)]
          refine go_aload_n (i := 0) (pc := 31) dX12_fits_31 rfl rfl ?_
          refine go_getr2 fl_X12_27 (pc := 32) dX12_fits_32 (by rfl) (by rfl) (by rfl) ?_
          refine go_iload_n (i := 3) (pc := 35) dX12_fits_35 rfl rfl ?_
          refine go_iaload _ (pc := 36) dX12_fits_36 (by first | rfl | (apply zM_ar <;> assumption)) (by first | rfl | (apply zM_jn <;> assumption)) rfl (by first | assumption | omega) ?_
          rw [(hCt.2.2.1.2.2 i (by omega)).2.1]
          refine go_goto 41 (pc := 37) dX12_fits_37 (by decide) ?_
          first | with_reducible refine go_iaddN (pc := 41) dX12_fits_41 ?_ | refine go_iadd (pc := 41) dX12_fits_41 ?_
          refine go_istore_n (i := 2) (pc := 42) dX12_fits_42 rfl (by decide) ?_
          refine go_iincN (pc := 43) dX12_fits_43 rfl (by decide) ?_
          refine go_goto 14 (pc := 46) dX12_fits_46 (by decide) ?_
          rw [← es]
          exact ih (bd.1 - (i + 1)) (by omega) (i + 1) rfl _ (by omega) hF
  refine go_aload_n (i := 0) (pc := 0) dX12_fits_0 rfl rfl ?_
  refine go_iconst (nI 0) (pc := 1) dX12_fits_1 (by decide) ?_
  refine go_puti fp_X12_97 (pc := 2) dX12_fits_2 (by rfl) rfl rfl ?_
  have hF : Fr9 [0, 27, 28] [13, 14, 16, 8] σ (uS σ 33 0 (nI 0)) := Fr9.rf.uS (by simp)
  refine go_aload_n (i := 0) (pc := 5) dX12_fits_5 rfl rfl ?_
  refine go_callV ml_X12_417 mt_X12_fitting (pc := 6) dX12_fits_6 (c_X12_fitting (V := (vOf bd sk xs ld.1)) (ru := ru) (hC.fr hF (by decide) (by decide)).env (hC.fr hF (by decide) (by decide)).2.2.2.2.2.1.2.2 hok (hC.fr hF (by decide) (by decide)).2.2.2.2.2.2.2.2.1) (by rfl) rfl (by rfl) (by decide) (by decide) rfl rfl (Nat.le_of_ble_eq_true rfl) (fun r σ' hp => ?_)
  obtain ⟨rfl, hFd⟩ := hp
  dsimp only [zRet]
  have hF := hF.tr (hFd.mono (by simp) (by simp))
  change GoM _ _ _ _ _ _ _ _ _ _ (.int (nI (fitB (vOf bd sk xs ld.1) ld.2 ru bd.1)) :: _)
  refine go_istore_n (i := 1) (pc := 9) dX12_fits_9 rfl (by decide) ?_
  refine go_iconst (nI 0) (pc := 10) dX12_fits_10 (by decide) ?_
  refine go_istore_n (i := 2) (pc := 11) dX12_fits_11 rfl (by decide) ?_
  refine go_iconst (nI 0) (pc := 12) dX12_fits_12 (by decide) ?_
  refine go_istore_n (i := 3) (pc := 13) dX12_fits_13 rfl (by decide) ?_
  exact loop 0 _ (by omega) hF

theorem bits_tb {p : Nat → Bool} : ∀ n i, (sumN n (fun c => if p c = true then 2 ^ c else 0)).testBit i = (decide (i < n) && p i)
  | 0, i => by simp [sumN]
  | n + 1, i => by
    have hl : sumN n (fun c => if p c = true then 2 ^ c else 0) < 2 ^ n := bits_lt (b := fun c => p c = true) n
    have ih := bits_tb (p := p) n i
    rw [sumN]
    by_cases hp : p n = true
    · rw [if_pos hp, ← or_add hl, Nat.testBit_or, ih]
      by_cases h : i = n
      · subst h; rw [Nat.testBit_two_pow_self, hp]; simp
      · rw [Nat.testBit_two_pow_of_ne (fun e => h e.symm)]
        by_cases h2 : i < n
        · simp [h2, show i < n + 1 by omega]
        · simp [h2, show ¬ i < n + 1 by omega]
    · rw [if_neg hp, Nat.add_zero, ih]
      by_cases h : i = n
      · subst h; simp [hp]
      · by_cases h2 : i < n
        · simp [h2, show i < n + 1 by omega]
        · simp [h2, show ¬ i < n + 1 by omega]
theorem heavy_e (ld : Nat → Nat) (v n : Nat) : heavyB ld v n = sumN n (fun c => if (decide (v ≤ ld c)) = true then 2 ^ c else 0) := sumN_congr (fun i _ => by simp)
theorem heavy_tb {ld : Nat → Nat} {v n i : Nat} (h : i < n) : (heavyB ld v n).testBit i = decide (v ≤ ld i) := by rw [heavy_e, bits_tb]; simp [h]
theorem heavy_hi {ld : Nat → Nat} {v n i : Nat} (h : n ≤ i) : (heavyB ld v n).testBit i = false := by rw [heavy_e, bits_tb]; simp [show ¬ i < n by omega]
/-- the reference's running best over questions 1 .. j -/
def askR (ld : Nat → Nat) (b nc : Nat) : Nat → Int32 × Nat
  | 0 => (-1, 1000000)
  | j + 1 => if askF ld b nc (j + 1) < (askR ld b nc j).2 then (nI (j + 1), askF ld b nc (j + 1)) else askR ld b nc j
theorem askR_e {ld : Nat → Nat} {b nc : Nat} (hb : b < 2 ^ nc) (hnc : nc ≤ 12) (hl : ∀ i, i < nc → 1 ≤ ld i) : ∀ j, askR ld b nc (j + 1) = (nI (askL ld b nc (j + 1)).1, (askL ld b nc (j + 1)).2)
  | 0 => by
    have h1 : askF ld b nc (0 + 1) = bcn b := by
      have e : b &&& heavyB ld (0 + 1) nc = b := by
        apply Nat.eq_of_testBit_eq
        intro i
        rw [Nat.testBit_and]
        by_cases h : i < nc
        · rw [heavy_tb h]; simp [hl i h]
        · rw [Nat.testBit_lt_two_pow (Nat.lt_of_lt_of_le hb (Nat.pow_le_pow_right (by decide) (by omega)))]; rfl
      unfold askF
      rw [e]
      omega
    have h12 := askF_le ld b nc (0 + 1)
    rw [askR, askL, askR, askL, if_pos (by omega), if_neg (by omega), h1]
  | j + 1 => by
    have ih := askR_e hb hnc hl j
    rw [askR, ih, show askL ld b nc (j + 1 + 1) = if askF ld b nc (j + 1 + 1) < (askL ld b nc (j + 1)).2 then (j + 1 + 1, askF ld b nc (j + 1 + 1)) else askL ld b nc (j + 1) from rfl]
    dsimp only
    split <;> rfl

theorem yes_bc {ld : Nat → Nat} {b nc v : Nat} (hnc : nc ≤ 12) : sumN nc (fun c => if b.testBit c ∧ v ≤ ld c then 1 else 0) = bcn (b &&& heavyB ld v nc) := by
  have key : ∀ k, nc + k ≤ 12 → sumN (nc + k) (fun i => if (b &&& heavyB ld v nc).testBit i then 1 else 0) = sumN nc (fun c => if b.testBit c ∧ v ≤ ld c then 1 else 0) := by
    intro k
    induction k with
    | zero =>
      intro _
      refine sumN_congr (fun i hi => ?_)
      rw [Nat.testBit_and, heavy_tb (n := nc) hi]
      by_cases h1 : b.testBit i = true
      · by_cases h2 : v ≤ ld i
        · simp [h1, h2]
        · simp [h1, h2]
      · simp [h1]
    | succ k ih =>
      intro hk
      rw [← Nat.add_assoc, sumN, ih (by omega), Nat.testBit_and, heavy_hi (by omega)]
      simp
  have := key (12 - nc) (by omega)
  rw [show nc + (12 - nc) = 12 by omega] at this
  exact this.symm

theorem askR_b (ld : Nat → Nat) (b nc : Nat) : ∀ j, (askR ld b nc j).2 ≤ 1000000
  | 0 => Nat.le_refl _
  | j + 1 => by
    have := askF_le ld b nc (j + 1)
    have := askR_b ld b nc j
    rw [askR]
    split
    · dsimp only; omega
    · assumption

theorem c_X12_ask {E : zE} {σ : zT} {tx : Nat × (Nat → Nat)} {bd : Nat × (Nat → Nat) × (Nat → Nat)} {sk : Nat × (Nat → Nat)} {tw : Nat × (Nat → Nat) × (Nat → Nat)} {xs : List Nat} {ld : Nat × (Nat → Nat)} {pa sh : Nat × (Nat → Nat → Nat)} {ru : Nat × (Nat → Nat) × (Nat → Nat)} {to : Nat × (Nat → Int64)} (hC : RefIs σ tx bd sk tw xs ld pa sh ru to) : CalM E 9 yX12_ask cX12_ask 7 (some .int) [.ref (zA E 33 0)] σ (fun r σ' => r = some (.int (if (fitB (vOf bd sk xs ld.1) ld.2 ru bd.1) = 0 then -2 else nI (askL bd.2.2 (fitB (vOf bd sk xs ld.1) ld.2 ru bd.1) bd.1 9).1)) ∧ RefIs σ' tx bd sk tw xs ld pa sh ru (if (fitB (vOf bd sk xs ld.1) ld.2 ru bd.1) = 0 then to else (1, ln1 (lN (askL bd.2.2 (fitB (vOf bd sk xs ld.1) ld.2 ru bd.1) bd.1 9).2))) ∧ FrG [33] σ σ') := by
  refine cal_of_go (own := RX12) rfl (by decide +kernel) (Nat.le_of_ble_eq_true rfl) ?_
  have hN := hC.2.2.2.2.2.1
  have hn : 1 ≤ ld.1 ∧ ld.1 ≤ 12 := ⟨hN.2.1.1, hN.2.1.2.1⟩
  have hV := hC.env.vok hN.2.1
  have hok := hN.2.1
  have hB := hC.2.2.1
  have hc8 := hB.1
  have hfb : (fitB (vOf bd sk xs ld.1) ld.2 ru bd.1) < 2 ^ 8 := Nat.lt_of_lt_of_le (bits_lt (b := fun c => fitA ru.2.1 ru.2.2 (vK (vOf bd sk xs ld.1) c) (vL (vOf bd sk xs ld.1) c) (gos (vOf bd sk xs ld.1) ld.2 c).isSome ru.1 = true) bd.1) (Nat.pow_le_pow_right (by decide) hc8)
  have hfbn : (fitB (vOf bd sk xs ld.1) ld.2 ru bd.1) < 2 ^ bd.1 := bits_lt (b := fun c => fitA ru.2.1 ru.2.2 (vK (vOf bd sk xs ld.1) c) (vL (vOf bd sk xs ld.1) c) (gos (vOf bd sk xs ld.1) ld.2 c).isSome ru.1 = true) bd.1
  have hfb12 : (fitB (vOf bd sk xs ld.1) ld.2 ru bd.1) < 2 ^ 12 := Nat.lt_of_lt_of_le hfb (by decide)
  have hbc : ∀ s, bcn s ≤ 12 * 1 := fun s => sumN_le (c := 1) (fun i _ => by split <;> omega)
  have hbc0 := hbc (fitB (vOf bd sk xs ld.1) ld.2 ru bd.1)
  have loop : (fitB (vOf bd sk xs ld.1) ld.2 ru bd.1) ≠ 0 → ∀ (i : Nat) (τ : zT), i ≤ 9 → Fr9 [0, 27, 28] [13, 14, 16, 8] σ τ → GoM E 9 RX12 cX12_ask 7 (some .int) (fun r σ' => r = some (.int (nI (askL bd.2.2 (fitB (vOf bd sk xs ld.1) ld.2 ru bd.1) bd.1 9).1)) ∧ RefIs σ' tx bd sk tw xs ld pa sh ru (1, ln1 (lN (askL bd.2.2 (fitB (vOf bd sk xs ld.1) ld.2 ru bd.1) bd.1 9).2)) ∧ FrG [33] σ σ') τ 26 [(0, .ref (zA E 33 0)), (1, .int (nI (fitB (vOf bd sk xs ld.1) ld.2 ru bd.1))), (2, .int (askR bd.2.2 (fitB (vOf bd sk xs ld.1) ld.2 ru bd.1) bd.1 i).1), (3, .int (nI (askR bd.2.2 (fitB (vOf bd sk xs ld.1) ld.2 ru bd.1) bd.1 i).2)), (4, .int (nI (i + 1)))] [] := by
    intro hnz i
    induction hz : 9 - i using Nat.strongRecOn generalizing i with
    | ind z iho =>
      intro τ hi hF
      have hl12 := (askL_b bd.2.2 (fitB (vOf bd sk xs ld.1) ld.2 ru bd.1) bd.1 9)
      refine go_iload (pc := 26) dX12_ask_26 rfl ?_
      refine go_bipush (nI 9) (pc := 28) dX12_ask_28 (by decide) ?_
      refine go_icmp_gt 128 (pc := 30) dX12_ask_30 (by decide) (fun h30 => ?_) (fun h30 => ?_)
      · first | rw [nI_ltI (by omega) (by omega)] at h30 | rw [zi_ltN (by omega)] at h30 | rw [zi_Nlt (by omega)] at h30 | rw [zi_lt] at h30
        have e : i = 9 := by omega
        subst e
        have har9 : askR bd.2.2 (fitB (vOf bd sk xs ld.1) ld.2 ru bd.1) bd.1 9 = (nI (askL bd.2.2 (fitB (vOf bd sk xs ld.1) ld.2 ru bd.1) bd.1 9).1, (askL bd.2.2 (fitB (vOf bd sk xs ld.1) ld.2 ru bd.1) bd.1 9).2) := askR_e hfbn (by omega) (fun q hq => (hB.2.2 q hq).2.2.2.1) 8
        rw [har9]
        dsimp only
        refine go_aload_n (i := 0) (pc := 128) dX12_ask_128 rfl rfl ?_
        refine go_iconst (nI 0) (pc := 129) dX12_ask_129 (by decide) ?_
        refine go_puti fp_X12_104 (pc := 130) dX12_ask_130 (by rfl) rfl rfl ?_
        have hFt : Fr9 [0, 1, 27, 28] [1, 13, 14, 16, 8] σ (uS τ 33 1 (nI 0)) := (hF.mono (by simp) (by simp)).uS (by simp)
        have hz1 : (uS τ 33 1 (nI 0)).1 33 1 = nI 0 := uS_s _ _ _ _
        refine go_aload_n (i := 0) (pc := 133) dX12_ask_133 rfl rfl ?_
        refine go_iload_n (i := 3) (pc := 134) dX12_ask_134 rfl rfl ?_
        refine go_i2l (pc := 135) dX12_ask_135 ?_
        rw [nI_l (by omega)]
        refine go_callV ml_X12_333 mt_X12_enters (pc := 136) dX12_ask_136 (c_tell1 hz1) (by rfl) rfl (by rfl) (by decide) (by decide) rfl rfl (Nat.le_of_ble_eq_true rfl) (fun r σ' hp => ?_)
        obtain ⟨rfl, hT1, hF1⟩ := hp
        dsimp only [zRet]
        have hFu := hFt.tr (hF1.mono (by simp) (by simp))
        refine go_iload_n (i := 2) (pc := 139) dX12_ask_139 rfl rfl ?_
        refine go_ireturn (pc := 140) dX12_ask_140 rfl ?_
        exact ⟨rfl, hC.tell hFu (by decide) (by decide) hT1, hFu.1⟩
      · first | rw [nI_ltI (by omega) (by omega)] at h30 | rw [zi_ltN (by omega)] at h30 | rw [zi_Nlt (by omega)] at h30 | rw [zi_lt] at h30
        have inner : ∀ (k : Nat) (τ : zT), k ≤ bd.1 → (Fr9 [0, 27, 28] [13, 14, 16, 8] σ τ) → GoM E 9 RX12 cX12_ask 7 (some .int) (fun r σ' => r = some (.int (nI (askL bd.2.2 (fitB (vOf bd sk xs ld.1) ld.2 ru bd.1) bd.1 9).1)) ∧ RefIs σ' tx bd sk tw xs ld pa sh ru (1, ln1 (lN (askL bd.2.2 (fitB (vOf bd sk xs ld.1) ld.2 ru bd.1) bd.1 9).2)) ∧ FrG [33] σ σ') τ 39 [(0, .ref (zA E 33 0)), (1, .int (nI (fitB (vOf bd sk xs ld.1) ld.2 ru bd.1))), (2, .int (askR bd.2.2 (fitB (vOf bd sk xs ld.1) ld.2 ru bd.1) bd.1 i).1), (3, .int (nI (askR bd.2.2 (fitB (vOf bd sk xs ld.1) ld.2 ru bd.1) bd.1 i).2)), (4, .int (nI (i + 1))), (5, .int (nI (sumN k (fun c => if ((fitB (vOf bd sk xs ld.1) ld.2 ru bd.1)).testBit c ∧ i + 1 ≤ bd.2.2 c then 1 else 0)))), (6, .int (nI k))] [] := by
          intro k
          induction hzk : bd.1 - k using Nat.strongRecOn generalizing k with
          | ind z ih =>
            intro τ hi hF
            have hCt := hC.fr hF (by decide) (by decide)
            have hyk : sumN k (fun c => if ((fitB (vOf bd sk xs ld.1) ld.2 ru bd.1)).testBit c ∧ i + 1 ≤ bd.2.2 c then 1 else 0) ≤ k * 1 := sumN_le (fun q _ => by split <;> omega)
            refine go_iload (pc := 39) dX12_ask_39 rfl ?_
            refine go_aload_n (i := 0) (pc := 41) dX12_ask_41 rfl rfl ?_
            refine go_geti fl_X12_111 (pc := 42) dX12_ask_42 (by rfl) ?_
            rw [hCt.2.2.1.2.1]
            refine go_icmp_ge 88 (pc := 45) dX12_ask_45 (by decide) (fun h45 => ?_) (fun h45 => ?_)
            · first | rw [nI_leI (by omega) (by omega)] at h45 | rw [zi_leN (by omega)] at h45 | rw [zi_Nle (by omega)] at h45 | rw [zi_le] at h45
              have e : k = bd.1 := by omega
              subst e
              rw [yes_bc (by omega)]
              have hba := bcn_and (fitB (vOf bd sk xs ld.1) ld.2 ru bd.1) (heavyB bd.2.2 (i + 1) bd.1)
              have haf := askF_le bd.2.2 (fitB (vOf bd sk xs ld.1) ld.2 ru bd.1) bd.1 (i + 1)
              have har := askR_b bd.2.2 (fitB (vOf bd sk xs ld.1) ld.2 ru bd.1) bd.1 i
              refine go_iload (pc := 88) dX12_ask_88 rfl ?_
              refine go_iload_n (i := 1) (pc := 90) dX12_ask_90 rfl rfl ?_
              refine go_callS ml_X12_305 mt_J6_bitCount_0f7a4 (pc := 91) dX12_ask_91 (c_bc hfb12) (by decide) (by decide) rfl rfl (Nat.le_of_ble_eq_true rfl) (fun r σ' hp => ?_)
              obtain ⟨rfl, hσ⟩ := hp
              rw [hσ]
              clear hσ
              dsimp only [zRet]
              refine go_iload (pc := 94) dX12_ask_94 rfl ?_
              refine go_isubN (pc := 96) dX12_ask_96 (by omega) ?_
              refine go_callS ml_X12_244 mt_J9_max_7cf53 (pc := 97) dX12_ask_97 (c_J9_maxN (by omega) (by omega)) (by decide) (by decide) rfl rfl (Nat.le_of_ble_eq_true rfl) (fun r σ' hp => ?_)
              obtain ⟨rfl, hσ⟩ := hp
              rw [hσ]
              clear hσ
              dsimp only [zRet]
              rw [show max (bcn ((fitB (vOf bd sk xs ld.1) ld.2 ru bd.1) &&& heavyB bd.2.2 (i + 1) bd.1)) (bcn (fitB (vOf bd sk xs ld.1) ld.2 ru bd.1) - bcn ((fitB (vOf bd sk xs ld.1) ld.2 ru bd.1) &&& heavyB bd.2.2 (i + 1) bd.1)) = askF bd.2.2 (fitB (vOf bd sk xs ld.1) ld.2 ru bd.1) bd.1 (i + 1) from rfl]
              refine go_istore (pc := 100) dX12_ask_100 (by decide) ?_
              refine go_iload (pc := 102) dX12_ask_102 rfl ?_
              refine go_iload_n (i := 3) (pc := 104) dX12_ask_104 rfl rfl ?_
              refine go_icmp_ge 113 (pc := 105) dX12_ask_105 (by decide) (fun h105 => ?_) (fun h105 => ?_)
              · first | rw [nI_leI (by omega) (by omega)] at h105 | rw [zi_leN (by omega)] at h105 | rw [zi_Nle (by omega)] at h105 | rw [zi_le] at h105
                have es : askR bd.2.2 (fitB (vOf bd sk xs ld.1) ld.2 ru bd.1) bd.1 (i + 1) = (askR bd.2.2 (fitB (vOf bd sk xs ld.1) ld.2 ru bd.1) bd.1 i) := by rw [askR, if_neg (by omega)]
                have hmn : min (askR bd.2.2 (fitB (vOf bd sk xs ld.1) ld.2 ru bd.1) bd.1 i).2 (askF bd.2.2 (fitB (vOf bd sk xs ld.1) ld.2 ru bd.1) bd.1 (i + 1)) = (askR bd.2.2 (fitB (vOf bd sk xs ld.1) ld.2 ru bd.1) bd.1 i).2 := by omega
                refine go_iload_n (i := 2) (pc := 113) dX12_ask_113 rfl rfl ?_
                refine go_istore_n (i := 2) (pc := 114) dX12_ask_114 rfl (by decide) ?_
                refine go_iload_n (i := 3) (pc := 115) dX12_ask_115 rfl rfl ?_
                refine go_iload (pc := 116) dX12_ask_116 rfl ?_
                refine go_callS ml_X12_127 mt_J9_min_7cf53 (pc := 118) dX12_ask_118 (c_J9_minN (by omega) (by omega)) (by decide) (by decide) rfl rfl (Nat.le_of_ble_eq_true rfl) (fun r σ' hp => ?_)
                obtain ⟨rfl, hσ⟩ := hp
                rw [hσ]
                clear hσ
                dsimp only [zRet]
                refine go_istore_n (i := 3) (pc := 121) dX12_ask_121 rfl (by decide) ?_
                refine go_iincN (pc := 122) dX12_ask_122 rfl (by decide) ?_
                refine go_goto 26 (pc := 125) dX12_ask_125 (by decide) ?_
                rw [hmn]
                refine go_drop [0, 1, 2, 3, 4] rfl ?_
                have h := iho (9 - (i + 1)) (by omega) (i + 1) rfl _ (by omega) hF
                rw [es] at h
                exact h
              · first | rw [nI_leI (by omega) (by omega)] at h105 | rw [zi_leN (by omega)] at h105 | rw [zi_Nle (by omega)] at h105 | rw [zi_le] at h105
                have es : askR bd.2.2 (fitB (vOf bd sk xs ld.1) ld.2 ru bd.1) bd.1 (i + 1) = (nI (i + 1), askF bd.2.2 (fitB (vOf bd sk xs ld.1) ld.2 ru bd.1) bd.1 (i + 1)) := by rw [askR, if_pos (by omega)]
                have hmn : min (askR bd.2.2 (fitB (vOf bd sk xs ld.1) ld.2 ru bd.1) bd.1 i).2 (askF bd.2.2 (fitB (vOf bd sk xs ld.1) ld.2 ru bd.1) bd.1 (i + 1)) = askF bd.2.2 (fitB (vOf bd sk xs ld.1) ld.2 ru bd.1) bd.1 (i + 1) := by omega
                refine go_iload (pc := 108) dX12_ask_108 rfl ?_
                refine go_goto 114 (pc := 110) dX12_ask_110 (by decide) ?_
                refine go_istore_n (i := 2) (pc := 114) dX12_ask_114 rfl (by decide) ?_
                refine go_iload_n (i := 3) (pc := 115) dX12_ask_115 rfl rfl ?_
                refine go_iload (pc := 116) dX12_ask_116 rfl ?_
                refine go_callS ml_X12_127 mt_J9_min_7cf53 (pc := 118) dX12_ask_118 (c_J9_minN (by omega) (by omega)) (by decide) (by decide) rfl rfl (Nat.le_of_ble_eq_true rfl) (fun r σ' hp => ?_)
                obtain ⟨rfl, hσ⟩ := hp
                rw [hσ]
                clear hσ
                dsimp only [zRet]
                refine go_istore_n (i := 3) (pc := 121) dX12_ask_121 rfl (by decide) ?_
                refine go_iincN (pc := 122) dX12_ask_122 rfl (by decide) ?_
                refine go_goto 26 (pc := 125) dX12_ask_125 (by decide) ?_
                rw [hmn]
                refine go_drop [0, 1, 2, 3, 4] rfl ?_
                have h := iho (9 - (i + 1)) (by omega) (i + 1) rfl _ (by omega) hF
                rw [es] at h
                exact h
            · first | rw [nI_leI (by omega) (by omega)] at h45 | rw [zi_leN (by omega)] at h45 | rw [zi_Nle (by omega)] at h45 | rw [zi_le] at h45
              refine go_iload (pc := 48) dX12_ask_48 rfl ?_
              refine go_iload_n (i := 1) (pc := 50) dX12_ask_50 rfl rfl ?_
              refine go_iload (pc := 51) dX12_ask_51 rfl ?_
              refine go_callS ml_X12_114 mt_X12_has (pc := 53) dX12_ask_53 (c_X12_has hfb12 (by omega)) (by decide) (by decide) rfl rfl (Nat.le_of_ble_eq_true rfl) (fun r σ' hp => ?_)
              obtain ⟨rfl, hσ⟩ := hp
              rw [hσ]
              clear hσ
              dsimp only [zRet]
              refine go_if_eq 75 (pc := 56) dX12_ask_56 (by decide) (fun h56 => ?_) (fun h56 => ?_)
              · rw [zb_0] at h56
                have es : sumN (k + 1) (fun c => if ((fitB (vOf bd sk xs ld.1) ld.2 ru bd.1)).testBit c ∧ i + 1 ≤ bd.2.2 c then 1 else 0) = sumN k (fun c => if ((fitB (vOf bd sk xs ld.1) ld.2 ru bd.1)).testBit c ∧ i + 1 ≤ bd.2.2 c then 1 else 0) + 0 := by rw [sumN, if_neg (fun h => by rw [h56] at h; exact absurd h.1 (by decide))]
                refine go_iconst (nI 0) (pc := 75) dX12_ask_75 (by decide) ?_
                refine go_callS ml_X12_136 mt_X12_flag (pc := 76) dX12_ask_76 (c_flagN (by decide)) (by decide) (by decide) rfl rfl (Nat.le_of_ble_eq_true rfl) (fun r σ' hp => ?_)
                obtain ⟨rfl, hσ⟩ := hp
                rw [hσ]
                clear hσ
                dsimp only [zRet]
                first | with_reducible refine go_iaddN (pc := 79) dX12_ask_79 ?_ | refine go_iadd (pc := 79) dX12_ask_79 ?_
                refine go_istore (pc := 80) dX12_ask_80 (by decide) ?_
                refine go_iincN (pc := 82) dX12_ask_82 rfl (by decide) ?_
                refine go_goto 39 (pc := 85) dX12_ask_85 (by decide) ?_
                rw [← es]
                exact ih (bd.1 - (k + 1)) (by omega) (k + 1) rfl _ (by omega) hF
              · rw [zb_0] at h56
                refine go_aload_n (i := 0) (pc := 59) dX12_ask_59 rfl rfl ?_
                refine go_getr2 fl_X12_27 (pc := 60) dX12_ask_60 (by rfl) (by rfl) (by rfl) ?_
                refine go_iload (pc := 63) dX12_ask_63 rfl ?_
                refine go_iaload _ (pc := 65) dX12_ask_65 (by first | rfl | (apply zM_ar <;> assumption)) (by first | rfl | (apply zM_jn <;> assumption)) rfl (by first | assumption | omega) ?_
                rw [(hCt.2.2.1.2.2 k (by omega)).2.1]
                have hl9 := (hCt.2.2.1.2.2 k (by omega)).2.2.2.2
                refine go_iload (pc := 66) dX12_ask_66 rfl ?_
                refine go_icmp_lt 75 (pc := 68) dX12_ask_68 (by decide) (fun h68 => ?_) (fun h68 => ?_)
                · first | rw [nI_ltI (by omega) (by omega)] at h68 | rw [zi_ltN (by omega)] at h68 | rw [zi_Nlt (by omega)] at h68 | rw [zi_lt] at h68
                  have es : sumN (k + 1) (fun c => if ((fitB (vOf bd sk xs ld.1) ld.2 ru bd.1)).testBit c ∧ i + 1 ≤ bd.2.2 c then 1 else 0) = sumN k (fun c => if ((fitB (vOf bd sk xs ld.1) ld.2 ru bd.1)).testBit c ∧ i + 1 ≤ bd.2.2 c then 1 else 0) + 0 := by rw [sumN, if_neg (fun h => by omega)]
                  refine go_iconst (nI 0) (pc := 75) dX12_ask_75 (by decide) ?_
                  refine go_callS ml_X12_136 mt_X12_flag (pc := 76) dX12_ask_76 (c_flagN (by decide)) (by decide) (by decide) rfl rfl (Nat.le_of_ble_eq_true rfl) (fun r σ' hp => ?_)
                  obtain ⟨rfl, hσ⟩ := hp
                  rw [hσ]
                  clear hσ
                  dsimp only [zRet]
                  first | with_reducible refine go_iaddN (pc := 79) dX12_ask_79 ?_ | refine go_iadd (pc := 79) dX12_ask_79 ?_
                  refine go_istore (pc := 80) dX12_ask_80 (by decide) ?_
                  refine go_iincN (pc := 82) dX12_ask_82 rfl (by decide) ?_
                  refine go_goto 39 (pc := 85) dX12_ask_85 (by decide) ?_
                  rw [← es]
                  exact ih (bd.1 - (k + 1)) (by omega) (k + 1) rfl _ (by omega) hF
                · first | rw [nI_ltI (by omega) (by omega)] at h68 | rw [zi_ltN (by omega)] at h68 | rw [zi_Nlt (by omega)] at h68 | rw [zi_lt] at h68
                  have es : sumN (k + 1) (fun c => if ((fitB (vOf bd sk xs ld.1) ld.2 ru bd.1)).testBit c ∧ i + 1 ≤ bd.2.2 c then 1 else 0) = sumN k (fun c => if ((fitB (vOf bd sk xs ld.1) ld.2 ru bd.1)).testBit c ∧ i + 1 ≤ bd.2.2 c then 1 else 0) + 1 := by rw [sumN, if_pos ⟨by simpa using h56, by omega⟩]
                  refine go_iconst (nI 1) (pc := 71) dX12_ask_71 (by decide) ?_
                  refine go_goto 76 (pc := 72) dX12_ask_72 (by decide) ?_
                  refine go_callS ml_X12_136 mt_X12_flag (pc := 76) dX12_ask_76 (c_flagN (by decide)) (by decide) (by decide) rfl rfl (Nat.le_of_ble_eq_true rfl) (fun r σ' hp => ?_)
                  obtain ⟨rfl, hσ⟩ := hp
                  rw [hσ]
                  clear hσ
                  dsimp only [zRet]
                  first | with_reducible refine go_iaddN (pc := 79) dX12_ask_79 ?_ | refine go_iadd (pc := 79) dX12_ask_79 ?_
                  refine go_istore (pc := 80) dX12_ask_80 (by decide) ?_
                  refine go_iincN (pc := 82) dX12_ask_82 rfl (by decide) ?_
                  refine go_goto 39 (pc := 85) dX12_ask_85 (by decide) ?_
                  rw [← es]
                  exact ih (bd.1 - (k + 1)) (by omega) (k + 1) rfl _ (by omega) hF
        refine go_iconst (nI 0) (pc := 33) dX12_ask_33 (by decide) ?_
        refine go_istore (pc := 34) dX12_ask_34 (by decide) ?_
        refine go_iconst (nI 0) (pc := 36) dX12_ask_36 (by decide) ?_
        refine go_istore (pc := 37) dX12_ask_37 (by decide) ?_
        exact inner 0 τ (by omega) hF
  refine go_aload_n (i := 0) (pc := 0) dX12_ask_0 rfl rfl ?_
  refine go_iconst (nI 0) (pc := 1) dX12_ask_1 (by decide) ?_
  refine go_puti fp_X12_97 (pc := 2) dX12_ask_2 (by rfl) rfl rfl ?_
  have hF : Fr9 [0, 27, 28] [13, 14, 16, 8] σ (uS σ 33 0 (nI 0)) := Fr9.rf.uS (by simp)
  refine go_aload_n (i := 0) (pc := 5) dX12_ask_5 rfl rfl ?_
  refine go_callV ml_X12_417 mt_X12_fitting (pc := 6) dX12_ask_6 (c_X12_fitting (V := (vOf bd sk xs ld.1)) (ru := ru) (hC.fr hF (by decide) (by decide)).env (hC.fr hF (by decide) (by decide)).2.2.2.2.2.1.2.2 hok (hC.fr hF (by decide) (by decide)).2.2.2.2.2.2.2.2.1) (by rfl) rfl (by rfl) (by decide) (by decide) rfl rfl (Nat.le_of_ble_eq_true rfl) (fun r σ' hp => ?_)
  obtain ⟨rfl, hFd⟩ := hp
  dsimp only [zRet]
  have hF := hF.tr (hFd.mono (by simp) (by simp))
  change GoM _ _ _ _ _ _ _ _ _ _ (.int (nI (fitB (vOf bd sk xs ld.1) ld.2 ru bd.1)) :: _)
  refine go_istore_n (i := 1) (pc := 9) dX12_ask_9 rfl (by decide) ?_
  refine go_iload_n (i := 1) (pc := 10) dX12_ask_10 rfl rfl ?_
  refine go_if_ne 17 (pc := 11) dX12_ask_11 (by decide) (fun h11 => ?_) (fun h11 => ?_)
  · first | rw [zb_0d] at h11 | rw [zn_eq0 (by omega)] at h11 | rw [zi_eq0] at h11
    rw [if_neg (by omega), if_neg (by omega)]
    refine go_iconst (-1) (pc := 17) dX12_ask_17 (by decide) ?_
    refine go_istore_n (i := 2) (pc := 18) dX12_ask_18 rfl (by decide) ?_
    refine go_ldcw (nI 1000000) kc_X12_380 (pc := 19) dX12_ask_19 ?_
    refine go_istore_n (i := 3) (pc := 22) dX12_ask_22 rfl (by decide) ?_
    refine go_iconst (nI 1) (pc := 23) dX12_ask_23 (by decide) ?_
    refine go_istore (pc := 24) dX12_ask_24 (by decide) ?_
    exact loop (by omega) 0 _ (by omega) hF
  · first | rw [zb_0d] at h11 | rw [zn_eq0 (by omega)] at h11 | rw [zi_eq0] at h11
    refine go_bipush (-2) (pc := 14) dX12_ask_14 (by decide) ?_
    refine go_ireturn (pc := 16) dX12_ask_16 rfl ?_
    rw [if_pos (by omega), if_pos (by omega)]
    exact ⟨rfl, hC.fr hF (by decide) (by decide), hF.1⟩

