theorem lw_f {q : Nat} (h : q ≤ 40) : mF q + nI 1 - nI 10000 = -10000 - nI q ∧ ¬ (0 : Int32) ≤ mF q := (by decide : ∀ q : Nat, q ≤ 40 → mF q + nI 1 - nI 10000 = -10000 - nI q ∧ ¬ (0 : Int32) ≤ mF q) q h

theorem c_X12_law {E : zE} {σ : zT} {tx : Nat × (Nat → Nat)} {bd : Nat × (Nat → Nat) × (Nat → Nat)} {sk : Nat × (Nat → Nat)} {tw : Nat × (Nat → Nat) × (Nat → Nat)} {xs : List Nat} {ld : Nat × (Nat → Nat)} {pa sh : Nat × (Nat → Nat → Nat)} {ru : Nat × (Nat → Nat) × (Nat → Nat)} {to : Nat × (Nat → Int64)} (hC : RefIs σ tx bd sk tw xs ld pa sh ru to) (hro : Roomy ld.2) : CalM E 338 yX12_law cX12_law 5 (some .int) [.ref (zA E 33 0)] σ (fun r σ' => r = some (.int (match (rdF tx.1 (mq0 tx.1 tx.2)) with | none => nI (wks (vOf bd sk (rdX tx.1 (mq0 tx.1 tx.2)) ld.1) ld.2 10).2.2.1 - nI (wks (vOf bd sk xs ld.1) ld.2 10).2.2.1 | some q => -10000 - nI q)) ∧ RefIs σ' (0, tx.2) bd sk tw xs ld pa sh ru (match (rdF tx.1 (mq0 tx.1 tx.2)) with | none => (2, ln2 (lN (wks (vOf bd sk (rdX tx.1 (mq0 tx.1 tx.2)) ld.1) ld.2 10).2.2.1) (lN (wks (vOf bd sk xs ld.1) ld.2 10).2.2.1)) | some _ => to) ∧ FrG [33] σ σ') := by
  refine cal_of_go (own := RX12) rfl (by decide +kernel) (Nat.le_of_ble_eq_true rfl) ?_
  have hN := hC.2.2.2.2.2.1
  have hok := hN.2.1
  have hro1 := hro.1
  have hro2 := hro.2
  have hV := hC.env.vok hok
  have hB1 := (wks_ok hV hok 10 (by omega) (by omega)).2.2.2.1
  cases hE : (rdF tx.1 (mq0 tx.1 tx.2)) with
  | none =>
    dsimp only
    have hlen := rl_len hE
    obtain ⟨hxs, ys, hys, h23a, h11a⟩ := hC.1
    have hyl : ys.length ≤ 40 := by
      rcases hys with h | h
      · rw [h]; exact hxs.2.1
      · rw [h.1]; exact Nat.zero_le _
    have loop : ∀ (i : Nat) (τ : zT), i ≤ ys.length → (τ.1 33 23 = nI ys.length) → (∀ j t, ys[j]? = some t → τ.2.1 33 11 j = nI t) → (∀ j t, j < i → ys[j]? = some t → τ.2.1 33 24 j = nI t) → (RcIs τ (rlY tx.1 tx.2)) → (TapeIs τ 0 tx.2) → (Fr9 [0, 1, 15, 16, 17, 18, 23, 24, 27, 28] [1, 8, 11, 12, 13, 14, 16, 24] σ τ) → GoM E 338 RX12 cX12_law 5 (some .int) (fun r σ' => r = some (.int (nI (wks (vOf bd sk (rdX tx.1 (mq0 tx.1 tx.2)) ld.1) ld.2 10).2.2.1 - nI (wks (vOf bd sk xs ld.1) ld.2 10).2.2.1)) ∧ RefIs σ' (0, tx.2) bd sk tw xs ld pa sh ru (2, ln2 (lN (wks (vOf bd sk (rdX tx.1 (mq0 tx.1 tx.2)) ld.1) ld.2 10).2.2.1) (lN (wks (vOf bd sk xs ld.1) ld.2 10).2.2.1)) ∧ FrG [33] σ σ') τ 41 [(0, .ref (zA E 33 0)), (1, .int (nI 0)), (2, .int (nI (wks (vOf bd sk xs ld.1) ld.2 10).2.2.1)), (3, .int (nI ys.length)), (4, .int (nI i))] [] := by
      intro i
      induction hz : ys.length - i using Nat.strongRecOn generalizing i with
      | ind z ih =>
        intro τ hi h23o h11o hw24 hRc hTt hF
        refine go_iload (pc := 41) dX12_law_41 rfl ?_
        refine go_aload_n (i := 0) (pc := 43) dX12_law_43 rfl rfl ?_
        refine go_geti fl_X12_227 (pc := 44) dX12_law_44 (by rfl) ?_
        rw [h23o]
        refine go_icmp_ge 70 (pc := 47) dX12_law_47 (by decide) (fun h47 => ?_) (fun h47 => ?_)
        · first | rw [nI_leI (by omega) (by omega)] at h47 | rw [zi_leN (by omega)] at h47 | rw [zi_Nle (by omega)] at h47 | rw [zi_le] at h47
          refine go_aload_n (i := 0) (pc := 70) dX12_law_70 rfl rfl ?_
          refine go_aload_n (i := 0) (pc := 71) dX12_law_71 rfl rfl ?_
          refine go_getr2 fl_X12_51 (pc := 72) dX12_law_72 (by rfl) (by rfl) (by rfl) ?_
          refine go_aload_n (i := 0) (pc := 75) dX12_law_75 rfl rfl ?_
          refine go_geti fl_X12_206 (pc := 76) dX12_law_76 (by rfl) ?_
          rw [hRc.1]
          refine go_callV ml_X12_233 mt_X12_laysCode (pc := 79) dX12_law_79 (c_X12_laysCode (w := 12) (ys := rlY tx.1 tx.2) (Or.inl rfl) (by omega) hRc.2) (by rfl) rfl (by rfl) (by decide) (by decide) rfl rfl (Nat.le_of_ble_eq_true rfl) (fun r σ' hp => ?_)
          obtain ⟨rfl, h23, h11, hF3⟩ := hp
          dsimp only [zRet]
          have hF4 := hF.tr (hF3.mono (by simp) (by simp))
          have h24 : ∀ j t, ys[j]? = some t → σ'.2.1 33 24 j = nI t := fun j t hj => by
            rw [hF3.2.2.1 _ (by decide)]
            exact hw24 j t (by have := (List.getElem?_eq_some_iff.mp hj).1; omega) hj
          have hTt := hTt.fr hF3 (by decide) (by decide)
          refine go_aload_n (i := 0) (pc := 82) dX12_law_82 rfl rfl ?_
          refine go_callV ml_X12_356 mt_X12_copies (pc := 83) dX12_law_83 (c_X12_copies (hN.2.2.fr hF4 (by decide))) (by rfl) rfl (by rfl) (by decide) (by decide) rfl rfl (Nat.le_of_ble_eq_true rfl) (fun r σ' hp => ?_)
          obtain ⟨rfl, hw8, hFc⟩ := hp
          dsimp only [zRet]
          have hF5 := hF4.tr (hFc.mono (by simp) (by simp))
          have hE5 : EnvR σ' (vOf bd sk (rdX tx.1 (mq0 tx.1 tx.2)) ld.1) := ⟨⟨rd_ok hE, rlY tx.1 tx.2, rl_alt _ _, (by rw [hFc.2.1 _ (by decide)]; exact h23), (fun j t hj => by rw [hFc.2.2.1 _ (by decide)]; exact h11 j t hj)⟩, hC.2.2.1.fr hF5 (by decide) (by decide) (by decide), hC.2.2.2.1.fr hF5 (by decide) (by decide), (hN.fr hF5 (by decide) (by decide)).1⟩
          have hB2 := (wks_ok (hE5.vok hok) hok 10 (by omega) (by omega)).2.2.2.1
          refine go_aload_n (i := 0) (pc := 86) dX12_law_86 rfl rfl ?_
          refine go_bipush (nI 10) (pc := 87) dX12_law_87 (by decide) ?_
          refine go_callV ml_X12_383 mt_X12_loadsIn (pc := 89) dX12_law_89 (c_X12_loadsIn (V := (vOf bd sk (rdX tx.1 (mq0 tx.1 tx.2)) ld.1)) (ρ := ld.2) (n := 10) hE5 hw8 hok (by omega) (by omega)) (by rfl) rfl (by rfl) (by decide) (by decide) rfl rfl (Nat.le_of_ble_eq_true rfl) (fun r σ' hp => ?_)
          obtain ⟨rfl, hFd⟩ := hp
          dsimp only [zRet]
          have hF6 := hF5.tr (hFd.mono (by simp) (by simp))
          have hTt := (hTt.fr hFc (by decide) (by decide)).fr hFd (by decide) (by decide)
          have h24 : ∀ j t, ys[j]? = some t → σ'.2.1 33 24 j = nI t := fun j t hj => by
            rw [hFd.2.2.1 _ (by decide), hFc.2.2.1 _ (by decide)]
            exact h24 j t hj
          refine go_istore (pc := 92) dX12_law_92 (by decide) ?_
          refine go_aload_n (i := 0) (pc := 94) dX12_law_94 rfl rfl ?_
          refine go_aload_n (i := 0) (pc := 95) dX12_law_95 rfl rfl ?_
          refine go_getr2 fl_X12_87 (pc := 96) dX12_law_96 (by rfl) (by rfl) (by rfl) ?_
          refine go_iload_n (i := 3) (pc := 99) dX12_law_99 rfl rfl ?_
          refine go_callV ml_X12_233 mt_X12_laysCode (pc := 100) dX12_law_100 (c_X12_laysCode (w := 24) (ys := ys) (Or.inr rfl) (by omega) h24) (by rfl) rfl (by rfl) (by decide) (by decide) rfl rfl (Nat.le_of_ble_eq_true rfl) (fun r σ' hp => ?_)
          obtain ⟨rfl, g23, g11, hFe⟩ := hp
          dsimp only [zRet]
          have hF7 := hF6.tr (hFe.mono (by simp) (by simp))
          have hTt := hTt.fr hFe (by decide) (by decide)
          refine go_aload_n (i := 0) (pc := 103) dX12_law_103 rfl rfl ?_
          refine go_iconst (nI 0) (pc := 104) dX12_law_104 (by decide) ?_
          refine go_puti fp_X12_104 (pc := 105) dX12_law_105 (by rfl) rfl rfl ?_
          have hFz : Fr9 [1] [1] σ' (uS σ' 33 1 (nI 0)) := Fr9.rf.uS (by simp)
          have hFt := hF7.tr (hFz.mono (by simp) (by simp))
          have hz1 : (uS σ' 33 1 (nI 0)).1 33 1 = nI 0 := uS_s _ _ _ _
          refine go_aload_n (i := 0) (pc := 108) dX12_law_108 rfl rfl ?_
          refine go_iload (pc := 109) dX12_law_109 rfl ?_
          refine go_i2l (pc := 111) dX12_law_111 ?_
          rw [nI_l (by omega)]
          refine go_callV ml_X12_333 mt_X12_enters (pc := 112) dX12_law_112 (c_tell1 hz1) (by rfl) rfl (by rfl) (by decide) (by decide) rfl rfl (Nat.le_of_ble_eq_true rfl) (fun r σ' hp => ?_)
          obtain ⟨rfl, hT1, hFf⟩ := hp
          dsimp only [zRet]
          have hFu := hFt.tr (hFf.mono (by simp) (by simp))
          refine go_aload_n (i := 0) (pc := 115) dX12_law_115 rfl rfl ?_
          refine go_iload_n (i := 2) (pc := 116) dX12_law_116 rfl rfl ?_
          refine go_i2l (pc := 117) dX12_law_117 ?_
          rw [nI_l (by omega)]
          refine go_callV ml_X12_333 mt_X12_enters (pc := 118) dX12_law_118 (c_tell2 hT1) (by rfl) rfl (by rfl) (by decide) (by decide) rfl rfl (Nat.le_of_ble_eq_true rfl) (fun r σ' hp => ?_)
          obtain ⟨rfl, hT2, hFg⟩ := hp
          dsimp only [zRet]
          have hFv := hFu.tr (hFg.mono (by simp) (by simp))
          have hFx := (hFz.tr (hFf.mono (by simp) (by simp))).tr (hFg.mono (by simp) (by simp))
          refine go_iload (pc := 121) dX12_law_121 rfl ?_
          refine go_iload_n (i := 2) (pc := 123) dX12_law_123 rfl rfl ?_
          refine go_isub (pc := 124) dX12_law_124 ?_
          refine go_ireturn (pc := 125) dX12_law_125 rfl ?_
          exact ⟨rfl, ⟨⟨hC.1.1, ys, hys, (by rw [hFx.2.1 _ (by decide)]; exact g23), (fun j t hj => by rw [hFx.2.2.1 _ (by decide)]; exact g11 j t hj)⟩, (hTt.fr hFx (by decide) (by decide)), (hC.2.2.1).fr hFv (by decide) (by decide) (by decide), (hC.2.2.2.1).fr hFv (by decide) (by decide), (hC.2.2.2.2.1).fr hFv (by decide) (by decide) (by decide), (hC.2.2.2.2.2.1).fr hFv (by decide) (by decide), (hC.2.2.2.2.2.2.1).fr hFv (by decide) (by decide), (hC.2.2.2.2.2.2.2.1).fr hFv (by decide) (by decide), (hC.2.2.2.2.2.2.2.2.1).fr hFv (by decide) (by decide) (by decide), hT2⟩, hFv.1⟩
        · first | rw [nI_leI (by omega) (by omega)] at h47 | rw [zi_leN (by omega)] at h47 | rw [zi_Nle (by omega)] at h47 | rw [zi_le] at h47
          refine go_aload_n (i := 0) (pc := 50) dX12_law_50 rfl rfl ?_
          refine go_getr2 fl_X12_87 (pc := 51) dX12_law_51 (by rfl) (by rfl) (by rfl) ?_
          refine go_iload (pc := 54) dX12_law_54 rfl ?_
          refine go_aload_n (i := 0) (pc := 56) dX12_law_56 rfl rfl ?_
          refine go_getr2 fl_X12_48 (pc := 57) dX12_law_57 (by rfl) (by rfl) (by rfl) ?_
          refine go_iload (pc := 60) dX12_law_60 rfl ?_
          refine go_iaload i (pc := 62) dX12_law_62 (by first | rfl | (apply zM_ar <;> assumption)) (by first | rfl | (apply zM_jn <;> assumption)) rfl (by omega) ?_
          refine go_iastore i (pc := 63) dX12_law_63 (by first | rfl | (apply zM_ar <;> assumption)) (by first | rfl | (apply zM_jn <;> assumption)) rfl (by omega) ?_
          have hFy : Fr9 [] [24] τ (uA τ 33 24 (upd (τ.2.1 33 24) i (τ.2.1 33 11 i))) := Fr9.rf.uA (by simp)
          refine go_iincN (pc := 64) dX12_law_64 rfl (by decide) ?_
          refine go_goto 41 (pc := 67) dX12_law_67 (by decide) ?_
          refine ih (ys.length - (i + 1)) (by omega) (i + 1) rfl _ (by omega) (by exact h23o) (fun j t hj => ?_) (fun j t hj ht => ?_) (hRc.fr hFy (by decide) (by decide)) (hTt.fr hFy (by decide) (by decide)) (hF.uA (by simp))
          · rw [hFy.2.2.1 _ (by decide)]
            exact h11o j t hj
          · rw [uA_s, upd_at]
            by_cases ej : j = i
            · rw [if_pos ej]
              subst ej
              exact h11o j t ht
            · rw [if_neg ej]
              exact hw24 j t (by omega) ht
    refine go_aload_n (i := 0) (pc := 0) dX12_law_0 rfl rfl ?_
    refine go_iconst (nI 0) (pc := 1) dX12_law_1 (by decide) ?_
    refine go_puti fp_X12_97 (pc := 2) dX12_law_2 (by rfl) rfl rfl ?_
    have hF0 : Fr9 [0] [] σ (uS σ 33 0 (nI 0)) := Fr9.rf.uS (by simp)
    refine go_aload_n (i := 0) (pc := 5) dX12_law_5 rfl rfl ?_
    refine go_callV ml_X12_230 mt_X12_readsRule (pc := 6) dX12_law_6 (c_X12_readsRule (L := tx.1) (f := tx.2) (hC.2.1.fr hF0 (by decide) (by decide))) (by rfl) rfl (by rfl) (by decide) (by decide) rfl rfl (Nat.le_of_ble_eq_true rfl) (fun r σ' hp => ?_)
    obtain ⟨rfl, hRc, hTt, hF1⟩ := hp
    dsimp only [zRet]
    rw [hE]
    dsimp only
    have hF2 : Fr9 [0, 15, 16, 17, 18, 24] [12] σ σ' := (hF0.mono (by simp) (by simp)).tr (hF1.mono (by simp) (by simp))
    refine go_istore_n (i := 1) (pc := 9) dX12_law_9 rfl (by decide) ?_
    refine go_iload_n (i := 1) (pc := 10) dX12_law_10 rfl rfl ?_
    refine go_if_ge 22 (pc := 11) dX12_law_11 (by decide) (fun h11 => ?_) (fun h11 => ?_)
    · refine go_aload_n (i := 0) (pc := 22) dX12_law_22 rfl rfl ?_
      refine go_callV ml_X12_356 mt_X12_copies (pc := 23) dX12_law_23 (c_X12_copies (hN.2.2.fr hF2 (by decide))) (by rfl) rfl (by rfl) (by decide) (by decide) rfl rfl (Nat.le_of_ble_eq_true rfl) (fun r σ' hp => ?_)
      obtain ⟨rfl, hw8, hFc⟩ := hp
      dsimp only [zRet]
      have hF3 : Fr9 [0, 15, 16, 17, 18, 24, 27, 28] [12, 8, 13, 14, 16] σ σ' := (hF2.mono (by simp) (by simp)).tr (hFc.mono (by simp) (by simp))
      have hE3 := hC.env.fr hF3 (by decide) (by decide)
      refine go_aload_n (i := 0) (pc := 26) dX12_law_26 rfl rfl ?_
      refine go_bipush (nI 10) (pc := 27) dX12_law_27 (by decide) ?_
      refine go_callV ml_X12_383 mt_X12_loadsIn (pc := 29) dX12_law_29 (c_X12_loadsIn (V := (vOf bd sk xs ld.1)) (ρ := ld.2) (n := 10) hE3 hw8 hok (by omega) (by omega)) (by rfl) rfl (by rfl) (by decide) (by decide) rfl rfl (Nat.le_of_ble_eq_true rfl) (fun r σ' hp => ?_)
      obtain ⟨rfl, hFd⟩ := hp
      dsimp only [zRet]
      have hF4 := hF3.tr (hFd.mono (by simp) (by simp))
      have hRd := ((hRc hE).fr hFc (by decide) (by decide)).fr hFd (by decide) (by decide)
      have hTd := (hTt.fr hFc (by decide) (by decide)).fr hFd (by decide) (by decide)
      refine go_istore_n (i := 2) (pc := 32) dX12_law_32 rfl (by decide) ?_
      refine go_aload_n (i := 0) (pc := 33) dX12_law_33 rfl rfl ?_
      refine go_geti fl_X12_227 (pc := 34) dX12_law_34 (by rfl) ?_
      rw [show σ'.1 33 23 = nI ys.length from (hF4.2.1 _ (by decide)).trans h23a]
      refine go_istore_n (i := 3) (pc := 37) dX12_law_37 rfl (by decide) ?_
      refine go_iconst (nI 0) (pc := 38) dX12_law_38 (by decide) ?_
      refine go_istore (pc := 39) dX12_law_39 (by decide) ?_
      exact loop 0 _ (Nat.zero_le _) ((hF4.2.1 _ (by decide)).trans h23a) (fun j t hj => by rw [hF4.2.2.1 _ (by decide)]; exact h11a j t hj) (fun j t hj => absurd hj (Nat.not_lt_zero _)) hRd hTd (hF4.mono (by simp) (by simp))
    · exact absurd (by decide) h11
  | some q =>
    dsimp only
    have hq := rdF_le hE
    have hlf := lw_f hq
    refine go_aload_n (i := 0) (pc := 0) dX12_law_0 rfl rfl ?_
    refine go_iconst (nI 0) (pc := 1) dX12_law_1 (by decide) ?_
    refine go_puti fp_X12_97 (pc := 2) dX12_law_2 (by rfl) rfl rfl ?_
    have hF0 : Fr9 [0] [] σ (uS σ 33 0 (nI 0)) := Fr9.rf.uS (by simp)
    refine go_aload_n (i := 0) (pc := 5) dX12_law_5 rfl rfl ?_
    refine go_callV ml_X12_230 mt_X12_readsRule (pc := 6) dX12_law_6 (c_X12_readsRule (L := tx.1) (f := tx.2) (hC.2.1.fr hF0 (by decide) (by decide))) (by rfl) rfl (by rfl) (by decide) (by decide) rfl rfl (Nat.le_of_ble_eq_true rfl) (fun r σ' hp => ?_)
    obtain ⟨rfl, hRc, hTt, hF1⟩ := hp
    dsimp only [zRet]
    rw [hE]
    dsimp only
    have hF2 : Fr9 [0, 15, 16, 17, 18, 24] [12] σ σ' := (hF0.mono (by simp) (by simp)).tr (hF1.mono (by simp) (by simp))
    refine go_istore_n (i := 1) (pc := 9) dX12_law_9 rfl (by decide) ?_
    refine go_iload_n (i := 1) (pc := 10) dX12_law_10 rfl rfl ?_
    refine go_if_ge 22 (pc := 11) dX12_law_11 (by decide) (fun h11 => ?_) (fun h11 => ?_)
    · exact absurd h11 hlf.2
    · refine go_iload_n (i := 1) (pc := 14) dX12_law_14 rfl rfl ?_
      refine go_iconst (nI 1) (pc := 15) dX12_law_15 (by decide) ?_
      refine go_iadd (pc := 16) dX12_law_16 ?_
      refine go_sipush (nI 10000) (pc := 17) dX12_law_17 (by decide) ?_
      refine go_isub (pc := 20) dX12_law_20 ?_
      rw [hlf.1]
      refine go_ireturn (pc := 21) dX12_law_21 rfl ?_
      exact ⟨rfl, ⟨(hC.1).fr hF2 (by decide) (by decide), hTt, (hC.2.2.1).fr hF2 (by decide) (by decide) (by decide), (hC.2.2.2.1).fr hF2 (by decide) (by decide), (hC.2.2.2.2.1).fr hF2 (by decide) (by decide) (by decide), (hC.2.2.2.2.2.1).fr hF2 (by decide) (by decide), (hC.2.2.2.2.2.2.1).fr hF2 (by decide) (by decide), (hC.2.2.2.2.2.2.2.1).fr hF2 (by decide) (by decide), (hC.2.2.2.2.2.2.2.2.1).fr hF2 (by decide) (by decide) (by decide), (hC.2.2.2.2.2.2.2.2.2).fr hF2 (by decide) (by decide)⟩, hF2.1⟩

