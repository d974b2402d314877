theorem ActIs.fr {fs js : List Nat} {σ σ' : zT} {f : Nat → Nat} {k p : Nat} (h : ActIs σ f k p) (hf : Fr9 fs js σ σ') (h1 : 17 ∉ js) (h2 : 18 ∉ js) (h3 : 19 ∉ js) : ActIs σ' f k p := ⟨by rw [hf.2.2.1 _ h1]; exact h.1, by rw [hf.2.2.1 _ h2]; exact h.2.1, fun q => by rw [hf.2.2.1 _ h3]; exact h.2.2 q⟩
theorem ActIs.lo {σ σ' : zT} {f : Nat → Nat} {k p : Nat} (h : ActIs σ f k p) (hl : σ'.2.1 33 17 k = σ.2.1 33 17 k ∧ σ'.2.1 33 18 k = σ.2.1 33 18 k ∧ σ'.2.1 33 19 k = σ.2.1 33 19 k) : ActIs σ' f k p := ⟨by rw [hl.1]; exact h.1, by rw [hl.2.1]; exact h.2.1, fun q => by rw [hl.2.2]; exact h.2.2 q⟩

set_option maxRecDepth 4000 in
theorem c_X12_log {E : zE} {σ : zT} {tx : Nat × (Nat → Nat)} {bd : Nat × (Nat → Nat) × (Nat → Nat)} {sk : Nat × (Nat → Nat)} {tw : Nat × (Nat → Nat) × (Nat → Nat)} {xs : List Nat} {ld : Nat × (Nat → Nat)} {pa sh : Nat × (Nat → Nat → Nat)} {ru : Nat × (Nat → Nat) × (Nat → Nat)} {to : Nat × (Nat → Int64)} (hC : RefIs σ tx bd sk tw xs ld pa sh ru to) (hro : Roomy ld.2) : CalM E 11 yX12_log cX12_log 5 (some .int) [.ref (zA E 33 0)] σ (fun r σ' => r = some (.int (match logF tx.1 tx.2 with | none => nI (logE (vOf bd sk xs ld.1) tx.2 tx.1 ld.2).1 | some q => mF q)) ∧ RefIs σ' (0, tx.2) bd sk tw xs (match logF tx.1 tx.2 with | none => (ld.1, (logE (vOf bd sk xs ld.1) tx.2 tx.1 ld.2).2.2) | some _ => ld) (match logF tx.1 tx.2 with | none => (if 0 < (logE (vOf bd sk xs ld.1) tx.2 tx.1 ld.2).1 then (min (pa.1 + 1) 15, pushH pa.2 pa.1 ld.2) else pa) | some _ => pa) sh ru (match logF tx.1 tx.2 with | none => (2, ln2 (lN (logE (vOf bd sk xs ld.1) tx.2 tx.1 ld.2).2.1) (lN ((logE (vOf bd sk xs ld.1) tx.2 tx.1 ld.2).2.2 28))) | some _ => to) ∧ FrG [33] σ σ') := by
  refine cal_of_go (own := RX12) rfl (by decide +kernel) (Nat.le_of_ble_eq_true rfl) ?_
  have hN := hC.2.2.2.2.2.1
  have hn : 1 ≤ ld.1 ∧ ld.1 ≤ 12 := ⟨hN.2.1.1, hN.2.1.2.1⟩
  have hV := hC.env.vok hN.2.1
  have hok := hN.2.1
  have hT := hC.2.1
  have hL := hT.2.1
  have hU := hC.2.2.2.2.2.2.1
  have exit : tx.1 ≤ 60 → ∀ (j K g : Nat) (ρ : Nat → Nat) (τ : zT), (logE (vOf bd sk xs ld.1) tx.2 tx.1 ld.2) = (j, g, ρ) → j ≤ 30 → K ≤ 30 → (g = if j < K then 1 else 0) → RowOK ld.1 ρ → RwIs τ 7 ρ → τ.1 33 35 = nI K → UndoIs τ pa.1 ld.1 pa.2 → (∀ q, q < 29 → τ.2.1 33 15 (29 * pa.1 + q) = nI (ld.2 q)) → TapeIs τ 0 tx.2 → Fr9 [0, 1, 15, 16, 17, 18, 27, 28, 29, 35] [1, 7, 13, 14, 15, 16, 17, 18, 19] σ τ → GoM E 11 RX12 cX12_log 5 (some .int) (fun r σ' => r = some (.int (nI (logE (vOf bd sk xs ld.1) tx.2 tx.1 ld.2).1)) ∧ RefIs σ' (0, tx.2) bd sk tw xs (ld.1, (logE (vOf bd sk xs ld.1) tx.2 tx.1 ld.2).2.2) (if 0 < (logE (vOf bd sk xs ld.1) tx.2 tx.1 ld.2).1 then (min (pa.1 + 1) 15, pushH pa.2 pa.1 ld.2) else pa) sh ru (2, ln2 (lN (logE (vOf bd sk xs ld.1) tx.2 tx.1 ld.2).2.1) (lN ((logE (vOf bd sk xs ld.1) tx.2 tx.1 ld.2).2.2 28))) ∧ FrG [33] σ σ') τ 88 [(0, .ref (zA E 33 0)), (4, .int (nI j))] [] := by
    intro h60 j K g ρ τ hE hj hK hg hokj hR h35 hUt hSl hTt hF
    have hgl : g ≤ 1 := by rw [hg]; split <;> omega
    have h28b := hokj.2.2.2.2.2.2.2
    have hFt : Fr9 [0, 1, 15, 16, 17, 18, 27, 28, 29, 35] [1, 7, 13, 14, 15, 16, 17, 18, 19] σ (uS τ 33 1 (nI 0)) := hF.uS (by simp)
    have hz1 : (uS τ 33 1 (nI 0)).1 33 1 = nI 0 := uS_s _ _ _ _
    have hR1 : RwIs (uS τ 33 1 (nI 0)) 7 ρ := hR.uS
    have h351 : (uS τ 33 1 (nI 0)).1 33 35 = nI K := by rw [uS_1, if_neg (by decide)]; exact h35
    have hU1 : UndoIs (uS τ 33 1 (nI 0)) pa.1 ld.1 pa.2 := hUt.fr (fs := [1]) (js := []) (Fr9.rf.uS (by simp)) (by decide) (by decide)
    have hS1 : ∀ q, q < 29 → (uS τ 33 1 (nI 0)).2.1 33 15 (29 * pa.1 + q) = nI (ld.2 q) := hSl
    have hT1 : TapeIs (uS τ 33 1 (nI 0)) 0 tx.2 := hTt.fr (fs := [1]) (js := []) (Fr9.rf.uS (by simp)) (by decide) (by decide)
    refine go_aload_n (i := 0) (pc := 88) dX12_log_88 rfl rfl ?_
    refine go_iconst (nI 0) (pc := 89) dX12_log_89 (by decide) ?_
    refine go_puti fp_X12_104 (pc := 90) dX12_log_90 (by rfl) rfl rfl ?_
    generalize uS τ 33 1 (nI 0) = τ1 at hFt hz1 hR1 h351 hU1 hS1 hT1 ⊢
    refine go_aload_n (i := 0) (pc := 93) dX12_log_93 rfl rfl ?_
    refine go_iload (pc := 94) dX12_log_94 rfl ?_
    refine go_aload_n (i := 0) (pc := 96) dX12_log_96 rfl rfl ?_
    refine go_geti fl_X12_340 (pc := 97) dX12_log_97 (by rfl) ?_
    rw [h351]
    refine go_icmp_ge 107 (pc := 100) dX12_log_100 (by decide) (fun h100 => ?_) (fun h100 => ?_)
    · first | rw [nI_leI (by omega) (by omega)] at h100 | rw [zi_leN (by omega)] at h100 | rw [zi_Nle (by omega)] at h100 | rw [zi_le] at h100
      refine go_iconst (nI 0) (pc := 107) dX12_log_107 (by decide) ?_
      refine go_callS ml_X12_136 mt_X12_flag (pc := 108) dX12_log_108 (c_flagN (by decide)) (by decide) (by decide) rfl rfl (Nat.le_of_ble_eq_true rfl) (fun r σ' hp => ?_)
      obtain ⟨rfl, hσ⟩ := hp
      rw [hσ]
      clear hσ σ'
      dsimp only [zRet]
      refine go_top (congrArg (fun z => Value.int (nI z)) (show _ = g by rw [hg]; first | rw [if_pos (by omega)] | rw [if_neg (by omega)])) ?_
      refine go_i2l (pc := 111) dX12_log_111 ?_
      rw [nI_l (by omega)]
      refine go_callV ml_X12_333 mt_X12_enters (pc := 112) dX12_log_112 (c_tell1 hz1) (by rfl) rfl (by rfl) (by decide) (by decide) rfl rfl (Nat.le_of_ble_eq_true rfl) (fun r σ' hp => ?_)
      obtain ⟨rfl, hTl, hF1⟩ := hp
      dsimp only [zRet]
      have hFu := hFt.tr (hF1.mono (by simp) (by simp))
      have hR2 := hR1.fr hF1 (by decide)
      have hU2 := hU1.fr hF1 (by decide) (by decide)
      have hT2 := hT1.fr hF1 (by decide) (by decide)
      have hS2 : ∀ q, q < 29 → σ'.2.1 33 15 (29 * pa.1 + q) = nI (ld.2 q) := fun q hq => by rw [hF1.2.2.1 15 (by decide)]; exact hS1 q hq
      refine go_aload_n (i := 0) (pc := 115) dX12_log_115 rfl rfl ?_
      refine go_aload_n (i := 0) (pc := 116) dX12_log_116 rfl rfl ?_
      refine go_getr2 fl_X12_36 (pc := 117) dX12_log_117 (by rfl) (by rfl) (by rfl) ?_
      refine go_bipush (nI 28) (pc := 120) dX12_log_120 (by decide) ?_
      refine go_iaload _ (pc := 122) dX12_log_122 (by first | rfl | (apply zM_ar <;> assumption)) (by first | rfl | (apply zM_jn <;> assumption)) rfl (by first | assumption | omega) ?_
      rw [hR2 28 (by decide)]
      refine go_i2l (pc := 123) dX12_log_123 ?_
      rw [nI_l (by omega)]
      refine go_callV ml_X12_333 mt_X12_enters (pc := 124) dX12_log_124 (c_tell2 hTl) (by rfl) rfl (by rfl) (by decide) (by decide) rfl rfl (Nat.le_of_ble_eq_true rfl) (fun r σ' hp => ?_)
      obtain ⟨rfl, hTm, hF2⟩ := hp
      dsimp only [zRet]
      have hFv := hFu.tr (hF2.mono (by simp) (by simp))
      have hR3 := hR2.fr hF2 (by decide)
      have hU3 := hU2.fr hF2 (by decide) (by decide)
      have hT3 := hT2.fr hF2 (by decide) (by decide)
      have hS3 : ∀ q, q < 29 → σ'.2.1 33 15 (29 * pa.1 + q) = nI (ld.2 q) := fun q hq => by rw [hF2.2.2.1 15 (by decide)]; exact hS2 q hq
      refine go_iload (pc := 127) dX12_log_127 rfl ?_
      refine go_if_le 141 (pc := 129) dX12_log_129 (by decide) (fun h129 => ?_) (fun h129 => ?_)
      · first | rw [zb_0d] at h129 | rw [zn_le0 (by omega)] at h129 | rw [zi_le0] at h129
        refine go_iconst (nI 0) (pc := 141) dX12_log_141 (by decide) ?_
        refine go_ireturn (pc := 142) dX12_log_142 rfl ?_
        rw [hE]
        dsimp only
        first
          | (have _ := kA
             rw [if_pos (by omega)]
             exact ⟨rfl, ⟨(hC.1).fr hFw (by decide) (by decide), hT4, (hC.2.2.1).fr hFw (by decide) (by decide) (by decide), (hC.2.2.2.1).fr hFw (by decide) (by decide), (hC.2.2.2.2.1).fr hFw (by decide) (by decide) (by decide), ⟨by rw [hFw.2.1 _ (by decide)]; exact hN.1, hokj, hR4⟩, hU4, (hC.2.2.2.2.2.2.2.1).fr hFw (by decide) (by decide), (hC.2.2.2.2.2.2.2.2.1).fr hFw (by decide) (by decide) (by decide), hTn⟩, hFw.1⟩)
          | (rw [if_neg (by omega), show j = 0 by omega]
             exact ⟨rfl, ⟨(hC.1).fr hFv (by decide) (by decide), hT3, (hC.2.2.1).fr hFv (by decide) (by decide) (by decide), (hC.2.2.2.1).fr hFv (by decide) (by decide), (hC.2.2.2.2.1).fr hFv (by decide) (by decide) (by decide), ⟨by rw [hFv.2.1 _ (by decide)]; exact hN.1, hokj, hR3⟩, hU3, (hC.2.2.2.2.2.2.2.1).fr hFv (by decide) (by decide), (hC.2.2.2.2.2.2.2.2.1).fr hFv (by decide) (by decide) (by decide), hTm⟩, hFv.1⟩)
      · first | rw [zb_0d] at h129 | rw [zn_le0 (by omega)] at h129 | rw [zi_le0] at h129
        refine go_aload_n (i := 0) (pc := 132) dX12_log_132 rfl rfl ?_
        refine go_iload (pc := 133) dX12_log_133 rfl ?_
        refine go_callV ml_X12_292 mt_X12_adds (pc := 135) dX12_log_135 (c_X12_adds hU3 hS3 hok) (by rfl) rfl (by rfl) (by decide) (by decide) rfl rfl (Nat.le_of_ble_eq_true rfl) (fun r σ' hp => ?_)
        obtain ⟨rfl, hU4, hF3⟩ := hp
        dsimp only [zRet]
        have hFw := hFv.tr (hF3.mono (by simp) (by simp))
        have hR4 := hR3.fr hF3 (by decide)
        have hT4 := hT3.fr hF3 (by decide) (by decide)
        have hTn := hTm.fr hF3 (by decide) (by decide)
        have kA := trivial
        refine go_goto 142 (pc := 138) dX12_log_138 (by decide) ?_
        refine go_ireturn (pc := 142) dX12_log_142 rfl ?_
        rw [hE]
        dsimp only
        first
          | (have _ := kA
             rw [if_pos (by omega)]
             exact ⟨rfl, ⟨(hC.1).fr hFw (by decide) (by decide), hT4, (hC.2.2.1).fr hFw (by decide) (by decide) (by decide), (hC.2.2.2.1).fr hFw (by decide) (by decide), (hC.2.2.2.2.1).fr hFw (by decide) (by decide) (by decide), ⟨by rw [hFw.2.1 _ (by decide)]; exact hN.1, hokj, hR4⟩, hU4, (hC.2.2.2.2.2.2.2.1).fr hFw (by decide) (by decide), (hC.2.2.2.2.2.2.2.2.1).fr hFw (by decide) (by decide) (by decide), hTn⟩, hFw.1⟩)
          | (rw [if_neg (by omega), show j = 0 by omega]
             exact ⟨rfl, ⟨(hC.1).fr hFv (by decide) (by decide), hT3, (hC.2.2.1).fr hFv (by decide) (by decide) (by decide), (hC.2.2.2.1).fr hFv (by decide) (by decide), (hC.2.2.2.2.1).fr hFv (by decide) (by decide) (by decide), ⟨by rw [hFv.2.1 _ (by decide)]; exact hN.1, hokj, hR3⟩, hU3, (hC.2.2.2.2.2.2.2.1).fr hFv (by decide) (by decide), (hC.2.2.2.2.2.2.2.2.1).fr hFv (by decide) (by decide) (by decide), hTm⟩, hFv.1⟩)
    · first | rw [nI_leI (by omega) (by omega)] at h100 | rw [zi_leN (by omega)] at h100 | rw [zi_Nle (by omega)] at h100 | rw [zi_le] at h100
      refine go_iconst (nI 1) (pc := 103) dX12_log_103 (by decide) ?_
      refine go_goto 108 (pc := 104) dX12_log_104 (by decide) ?_
      refine go_callS ml_X12_136 mt_X12_flag (pc := 108) dX12_log_108 (c_flagN (by decide)) (by decide) (by decide) rfl rfl (Nat.le_of_ble_eq_true rfl) (fun r σ' hp => ?_)
      obtain ⟨rfl, hσ⟩ := hp
      rw [hσ]
      clear hσ σ'
      dsimp only [zRet]
      refine go_top (congrArg (fun z => Value.int (nI z)) (show _ = g by rw [hg]; first | rw [if_pos (by omega)] | rw [if_neg (by omega)])) ?_
      refine go_i2l (pc := 111) dX12_log_111 ?_
      rw [nI_l (by omega)]
      refine go_callV ml_X12_333 mt_X12_enters (pc := 112) dX12_log_112 (c_tell1 hz1) (by rfl) rfl (by rfl) (by decide) (by decide) rfl rfl (Nat.le_of_ble_eq_true rfl) (fun r σ' hp => ?_)
      obtain ⟨rfl, hTl, hF1⟩ := hp
      dsimp only [zRet]
      have hFu := hFt.tr (hF1.mono (by simp) (by simp))
      have hR2 := hR1.fr hF1 (by decide)
      have hU2 := hU1.fr hF1 (by decide) (by decide)
      have hT2 := hT1.fr hF1 (by decide) (by decide)
      have hS2 : ∀ q, q < 29 → σ'.2.1 33 15 (29 * pa.1 + q) = nI (ld.2 q) := fun q hq => by rw [hF1.2.2.1 15 (by decide)]; exact hS1 q hq
      refine go_aload_n (i := 0) (pc := 115) dX12_log_115 rfl rfl ?_
      refine go_aload_n (i := 0) (pc := 116) dX12_log_116 rfl rfl ?_
      refine go_getr2 fl_X12_36 (pc := 117) dX12_log_117 (by rfl) (by rfl) (by rfl) ?_
      refine go_bipush (nI 28) (pc := 120) dX12_log_120 (by decide) ?_
      refine go_iaload _ (pc := 122) dX12_log_122 (by first | rfl | (apply zM_ar <;> assumption)) (by first | rfl | (apply zM_jn <;> assumption)) rfl (by first | assumption | omega) ?_
      rw [hR2 28 (by decide)]
      refine go_i2l (pc := 123) dX12_log_123 ?_
      rw [nI_l (by omega)]
      refine go_callV ml_X12_333 mt_X12_enters (pc := 124) dX12_log_124 (c_tell2 hTl) (by rfl) rfl (by rfl) (by decide) (by decide) rfl rfl (Nat.le_of_ble_eq_true rfl) (fun r σ' hp => ?_)
      obtain ⟨rfl, hTm, hF2⟩ := hp
      dsimp only [zRet]
      have hFv := hFu.tr (hF2.mono (by simp) (by simp))
      have hR3 := hR2.fr hF2 (by decide)
      have hU3 := hU2.fr hF2 (by decide) (by decide)
      have hT3 := hT2.fr hF2 (by decide) (by decide)
      have hS3 : ∀ q, q < 29 → σ'.2.1 33 15 (29 * pa.1 + q) = nI (ld.2 q) := fun q hq => by rw [hF2.2.2.1 15 (by decide)]; exact hS2 q hq
      refine go_iload (pc := 127) dX12_log_127 rfl ?_
      refine go_if_le 141 (pc := 129) dX12_log_129 (by decide) (fun h129 => ?_) (fun h129 => ?_)
      · first | rw [zb_0d] at h129 | rw [zn_le0 (by omega)] at h129 | rw [zi_le0] at h129
        refine go_iconst (nI 0) (pc := 141) dX12_log_141 (by decide) ?_
        refine go_ireturn (pc := 142) dX12_log_142 rfl ?_
        rw [hE]
        dsimp only
        first
          | (have _ := kA
             rw [if_pos (by omega)]
             exact ⟨rfl, ⟨(hC.1).fr hFw (by decide) (by decide), hT4, (hC.2.2.1).fr hFw (by decide) (by decide) (by decide), (hC.2.2.2.1).fr hFw (by decide) (by decide), (hC.2.2.2.2.1).fr hFw (by decide) (by decide) (by decide), ⟨by rw [hFw.2.1 _ (by decide)]; exact hN.1, hokj, hR4⟩, hU4, (hC.2.2.2.2.2.2.2.1).fr hFw (by decide) (by decide), (hC.2.2.2.2.2.2.2.2.1).fr hFw (by decide) (by decide) (by decide), hTn⟩, hFw.1⟩)
          | (rw [if_neg (by omega), show j = 0 by omega]
             exact ⟨rfl, ⟨(hC.1).fr hFv (by decide) (by decide), hT3, (hC.2.2.1).fr hFv (by decide) (by decide) (by decide), (hC.2.2.2.1).fr hFv (by decide) (by decide), (hC.2.2.2.2.1).fr hFv (by decide) (by decide) (by decide), ⟨by rw [hFv.2.1 _ (by decide)]; exact hN.1, hokj, hR3⟩, hU3, (hC.2.2.2.2.2.2.2.1).fr hFv (by decide) (by decide), (hC.2.2.2.2.2.2.2.2.1).fr hFv (by decide) (by decide) (by decide), hTm⟩, hFv.1⟩)
      · first | rw [zb_0d] at h129 | rw [zn_le0 (by omega)] at h129 | rw [zi_le0] at h129
        refine go_aload_n (i := 0) (pc := 132) dX12_log_132 rfl rfl ?_
        refine go_iload (pc := 133) dX12_log_133 rfl ?_
        refine go_callV ml_X12_292 mt_X12_adds (pc := 135) dX12_log_135 (c_X12_adds hU3 hS3 hok) (by rfl) rfl (by rfl) (by decide) (by decide) rfl rfl (Nat.le_of_ble_eq_true rfl) (fun r σ' hp => ?_)
        obtain ⟨rfl, hU4, hF3⟩ := hp
        dsimp only [zRet]
        have hFw := hFv.tr (hF3.mono (by simp) (by simp))
        have hR4 := hR3.fr hF3 (by decide)
        have hT4 := hT3.fr hF3 (by decide) (by decide)
        have hTn := hTm.fr hF3 (by decide) (by decide)
        have kA := trivial
        refine go_goto 142 (pc := 138) dX12_log_138 (by decide) ?_
        refine go_ireturn (pc := 142) dX12_log_142 rfl ?_
        rw [hE]
        dsimp only
        first
          | (have _ := kA
             rw [if_pos (by omega)]
             exact ⟨rfl, ⟨(hC.1).fr hFw (by decide) (by decide), hT4, (hC.2.2.1).fr hFw (by decide) (by decide) (by decide), (hC.2.2.2.1).fr hFw (by decide) (by decide), (hC.2.2.2.2.1).fr hFw (by decide) (by decide) (by decide), ⟨by rw [hFw.2.1 _ (by decide)]; exact hN.1, hokj, hR4⟩, hU4, (hC.2.2.2.2.2.2.2.1).fr hFw (by decide) (by decide), (hC.2.2.2.2.2.2.2.2.1).fr hFw (by decide) (by decide) (by decide), hTn⟩, hFw.1⟩)
          | (rw [if_neg (by omega), show j = 0 by omega]
             exact ⟨rfl, ⟨(hC.1).fr hFv (by decide) (by decide), hT3, (hC.2.2.1).fr hFv (by decide) (by decide) (by decide), (hC.2.2.2.1).fr hFv (by decide) (by decide), (hC.2.2.2.2.1).fr hFv (by decide) (by decide) (by decide), ⟨by rw [hFv.2.1 _ (by decide)]; exact hN.1, hokj, hR3⟩, hU3, (hC.2.2.2.2.2.2.2.1).fr hFv (by decide) (by decide), (hC.2.2.2.2.2.2.2.2.1).fr hFv (by decide) (by decide) (by decide), hTm⟩, hFv.1⟩)
  have run : tx.1 ≤ 60 → ∀ K, K ≤ 30 → lPos tx.2 K = tx.1 → ∀ (j : Nat) (ρ : Nat → Nat) (τ : zT), j ≤ K → (logE (vOf bd sk xs ld.1) tx.2 tx.1 ld.2) = logX (vOf bd sk xs ld.1) tx.2 tx.1 (61 - j) (lPos tx.2 j) ρ j → (∀ i, i ≤ K → lPos tx.2 i + 2 * (K - i) ≤ tx.1) → RowOK ld.1 ρ → ρ 27 ≤ ld.2 27 + 9 * j → ρ 28 ≤ ld.2 28 + 648 * j → RwIs τ 7 ρ → (∀ j, j < K → ActIs τ tx.2 j (lPos tx.2 j) ∧ (aOne tx.2 (min tx.1 60) (lPos tx.2 j)).1 = true) → τ.1 33 35 = nI K → UndoIs τ pa.1 ld.1 pa.2 → (∀ q, q < 29 → τ.2.1 33 15 (29 * pa.1 + q) = nI (ld.2 q)) → TapeIs τ 0 tx.2 → Fr9 [0, 1, 15, 16, 17, 18, 27, 28, 29, 35] [1, 7, 13, 14, 15, 16, 17, 18, 19] σ τ → GoM E 11 RX12 cX12_log 5 (some .int) (fun r σ' => r = some (.int (nI (logE (vOf bd sk xs ld.1) tx.2 tx.1 ld.2).1)) ∧ RefIs σ' (0, tx.2) bd sk tw xs (ld.1, (logE (vOf bd sk xs ld.1) tx.2 tx.1 ld.2).2.2) (if 0 < (logE (vOf bd sk xs ld.1) tx.2 tx.1 ld.2).1 then (min (pa.1 + 1) 15, pushH pa.2 pa.1 ld.2) else pa) sh ru (2, ln2 (lN (logE (vOf bd sk xs ld.1) tx.2 tx.1 ld.2).2.1) (lN ((logE (vOf bd sk xs ld.1) tx.2 tx.1 ld.2).2.2 28))) ∧ FrG [33] σ σ') τ 64 [(0, .ref (zA E 33 0)), (4, .int (nI j))] [] := by
    intro h60 K hK hPK j
    induction hz : K - j using Nat.strongRecOn generalizing j with
    | ind z ih =>
      intro ρ τ hj hE hmono hokj h27 h28 hR hA h35 hUt hSl hTt hF
      have hpj := hmono j hj
      refine go_iload (pc := 64) dX12_log_64 rfl ?_
      refine go_aload_n (i := 0) (pc := 66) dX12_log_66 rfl rfl ?_
      refine go_geti fl_X12_340 (pc := 67) dX12_log_67 (by rfl) ?_
      rw [h35]
      refine go_icmp_ge 88 (pc := 70) dX12_log_70 (by decide) (fun h70 => ?_) (fun h70 => ?_)
      · first | rw [nI_leI (by omega) (by omega)] at h70 | rw [zi_leN (by omega)] at h70 | rw [zi_Nle (by omega)] at h70 | rw [zi_le] at h70
        have e : j = K := by omega
        subst e
        refine exit h60 j j 0 ρ τ ?_ (by omega) hK (by rw [if_neg (by omega)]) hokj hR h35 hUt hSl hTt hF
        rw [hE, show 61 - j = (60 - j) + 1 by omega, logX, if_pos (by omega)]
      · first | rw [nI_leI (by omega) (by omega)] at h70 | rw [zi_leN (by omega)] at h70 | rw [zi_Nle (by omega)] at h70 | rw [zi_le] at h70
        refine go_aload_n (i := 0) (pc := 73) dX12_log_73 rfl rfl ?_
        refine go_iload (pc := 74) dX12_log_74 rfl ?_
        refine go_callV ml_X12_353 mt_X12_does (pc := 76) dX12_log_76 (c_X12_does (V := (vOf bd sk xs ld.1)) (f := tx.2) (ρ := ρ) (p := lPos tx.2 j) (lim := (min tx.1 60)) (hC.env.fr hF (by decide) (by decide)) hR hokj (hA j (by omega)).1 (hA j (by omega)).2 (by omega) (by omega) (by omega) (hT.2.2 _ (by omega)).2) (by rfl) rfl (by rfl) (by decide) (by decide) rfl rfl (Nat.le_of_ble_eq_true rfl) (fun r σ' hp => ?_)
        obtain ⟨rfl, hR2, hFd⟩ := hp
        dsimp only [zRet]
        have hF2 := hF.tr (hFd.mono (by simp) (by simp))
        have had := act_d (hA j (by omega)).2
        have hdb := dAct_b (V := (vOf bd sk xs ld.1)) (f := tx.2) (ρ := ρ) (p := lPos tx.2 j) hV hokj (by omega) (by omega) (fun e => (had.1 e).2)
        have hdo := dAct_ok (V := (vOf bd sk xs ld.1)) (f := tx.2) (ρ := ρ) (p := lPos tx.2 j) hV hokj (by omega) (by omega) (fun e => (had.1 e).2)
        have h352 : σ'.1 33 35 = nI K := by rw [hFd.2.1 _ (by decide)]; exact h35
        have hU2 := hUt.fr hFd (by decide) (by decide)
        have hS2 : ∀ q, q < 29 → σ'.2.1 33 15 (29 * pa.1 + q) = nI (ld.2 q) := fun q hq => by rw [hFd.2.2.1 15 (by decide)]; exact hSl q hq
        have hT2 := hTt.fr hFd (by decide) (by decide)
        have hE2 := hE
        rw [show 61 - j = (60 - j) + 1 by omega, logX, if_neg (by omega)] at hE2
        refine go_if_eq 88 (pc := 79) dX12_log_79 (by decide) (fun h79 => ?_) (fun h79 => ?_)
        · rw [zb_0d] at h79
          rw [if_pos (by omega)] at hE2
          exact exit h60 j K 1 _ _ hE2 (by omega) hK (by rw [if_pos (by omega)]) hdo hR2 h352 hU2 hS2 hT2 hF2
        · rw [zb_0d] at h79
          have h79 := Decidable.not_not.mp h79
          rw [if_neg (by omega)] at hE2
          refine go_iincN (pc := 82) dX12_log_82 rfl (by decide) ?_
          refine go_goto 64 (pc := 85) dX12_log_85 (by decide) ?_
          refine ih (K - (j + 1)) (by omega) (j + 1) rfl _ _ (by omega) (by rw [show 61 - (j + 1) = 60 - j by omega]; exact hE2) hmono hdo (by omega) (by omega) hR2 (fun i hi => ⟨(hA i hi).1.fr hFd (by decide) (by decide) (by decide), (hA i hi).2⟩) h352 hU2 hS2 hT2 hF2
  have fin1 : ∀ (a : Nat) (τ : zT), logQ tx.1 tx.2 = some a → a ≤ (min tx.1 60) → Cur τ tx.2 a (min tx.1 60) → TapeIs τ 0 tx.2 → Fr9 [0, 15, 16, 17, 18, 35] [17, 18, 19] σ τ → GoM E 11 RX12 cX12_log 5 (some .int) (fun r σ' => r = some (.int (match logF tx.1 tx.2 with | none => nI (logE (vOf bd sk xs ld.1) tx.2 tx.1 ld.2).1 | some q => mF q)) ∧ RefIs σ' (0, tx.2) bd sk tw xs (match logF tx.1 tx.2 with | none => (ld.1, (logE (vOf bd sk xs ld.1) tx.2 tx.1 ld.2).2.2) | some _ => ld) (match logF tx.1 tx.2 with | none => (if 0 < (logE (vOf bd sk xs ld.1) tx.2 tx.1 ld.2).1 then (min (pa.1 + 1) 15, pushH pa.2 pa.1 ld.2) else pa) | some _ => pa) sh ru (match logF tx.1 tx.2 with | none => (2, ln2 (lN (logE (vOf bd sk xs ld.1) tx.2 tx.1 ld.2).2.1) (lN ((logE (vOf bd sk xs ld.1) tx.2 tx.1 ld.2).2.2 28))) | some _ => to) ∧ FrG [33] σ σ') τ 42 [(0, .ref (zA E 33 0)), (1, .int (nI tx.1)), (2, .int (zb false))] [] := by
    intro a τ hq ha hK hTt hF
    have hlf : logF tx.1 tx.2 = some a := by unfold logF; rw [hq]
    have hfo : faO tx.1 60 false a (min tx.1 60) = mF a := by
      unfold faO
      by_cases h : 60 < tx.1 ∧ ((false = true ∧ a = (min tx.1 60)) ∨ 60 ≤ a)
      · rw [if_pos h, show a = 60 by rcases h.2 with q | q; exact absurd q.1 (by decide); omega]
      · rw [if_neg h, if_neg (fun q => absurd q.1 (by decide))]
    rw [hlf]
    refine go_aload_n (i := 0) (pc := 42) dX12_log_42 rfl rfl ?_
    refine go_iload_n (i := 1) (pc := 43) dX12_log_43 rfl rfl ?_
    refine go_bipush (nI 60) (pc := 44) dX12_log_44 (by decide) ?_
    refine go_iload_n (i := 2) (pc := 46) dX12_log_46 rfl rfl ?_
    refine go_callV ml_X12_196 mt_X12_faultOf (pc := 47) dX12_log_47 (c_X12_faultOf (b := false) hK hL (by decide)) (by rfl) rfl (by rfl) (by decide) (by decide) rfl rfl (Nat.le_of_ble_eq_true rfl) (fun r σ' hp => ?_)
    obtain ⟨rfl, hσ⟩ := hp
    rw [hσ]
    clear hσ
    dsimp only [zRet]
    refine go_top (congrArg Value.int hfo) ?_
    refine go_istore_n (i := 3) (pc := 50) dX12_log_50 rfl (by decide) ?_
    refine go_iload_n (i := 3) (pc := 51) dX12_log_51 rfl rfl ?_
    refine go_if_ge 57 (pc := 52) dX12_log_52 (by decide) (fun h52 => ?_) (fun h52 => ?_)
    · exfalso
      rw [zi_ge0] at h52
      have := mF_nn (q := a) (by omega)
      omega
    · refine go_iload_n (i := 3) (pc := 55) dX12_log_55 rfl rfl ?_
      refine go_ireturn (pc := 56) dX12_log_56 rfl ?_
      exact ⟨rfl, ⟨(hC.1).fr hF (by decide) (by decide), hTt, (hC.2.2.1).fr hF (by decide) (by decide) (by decide), (hC.2.2.2.1).fr hF (by decide) (by decide), (hC.2.2.2.2.1).fr hF (by decide) (by decide) (by decide), (hC.2.2.2.2.2.1).fr hF (by decide) (by decide), (hC.2.2.2.2.2.2.1).fr hF (by decide) (by decide), (hC.2.2.2.2.2.2.2.1).fr hF (by decide) (by decide), (hC.2.2.2.2.2.2.2.2.1).fr hF (by decide) (by decide) (by decide), (hC.2.2.2.2.2.2.2.2.2).fr hF (by decide) (by decide)⟩, hF.1⟩
  have fin2 : ∀ (K : Nat) (τ : zT), logQ tx.1 tx.2 = none → lPos tx.2 K = (min tx.1 60) → K ≤ 30 → (∀ i, i ≤ K → lPos tx.2 i + 2 * (K - i) ≤ (min tx.1 60)) → Cur τ tx.2 (min tx.1 60) (min tx.1 60) → τ.1 33 35 = nI K → (∀ j, j < K → ActIs τ tx.2 j (lPos tx.2 j) ∧ (aOne tx.2 (min tx.1 60) (lPos tx.2 j)).1 = true) → TapeIs τ 0 tx.2 → Fr9 [0, 15, 16, 17, 18, 35] [17, 18, 19] σ τ → GoM E 11 RX12 cX12_log 5 (some .int) (fun r σ' => r = some (.int (match logF tx.1 tx.2 with | none => nI (logE (vOf bd sk xs ld.1) tx.2 tx.1 ld.2).1 | some q => mF q)) ∧ RefIs σ' (0, tx.2) bd sk tw xs (match logF tx.1 tx.2 with | none => (ld.1, (logE (vOf bd sk xs ld.1) tx.2 tx.1 ld.2).2.2) | some _ => ld) (match logF tx.1 tx.2 with | none => (if 0 < (logE (vOf bd sk xs ld.1) tx.2 tx.1 ld.2).1 then (min (pa.1 + 1) 15, pushH pa.2 pa.1 ld.2) else pa) | some _ => pa) sh ru (match logF tx.1 tx.2 with | none => (2, ln2 (lN (logE (vOf bd sk xs ld.1) tx.2 tx.1 ld.2).2.1) (lN ((logE (vOf bd sk xs ld.1) tx.2 tx.1 ld.2).2.2 28))) | some _ => to) ∧ FrG [33] σ σ') τ 42 [(0, .ref (zA E 33 0)), (1, .int (nI tx.1)), (2, .int (zb true))] [] := by
    intro K τ hq hPK hK30 hmono hK h35 hA hTt hF
    by_cases h60 : tx.1 ≤ 60
    · have hlf : logF tx.1 tx.2 = none := by unfold logF; rw [hq]; dsimp only; rw [if_neg (by omega)]
      have hlim : (min tx.1 60) = tx.1 := by omega
      have hfo : faO tx.1 60 true (min tx.1 60) (min tx.1 60) = nI 0 := by unfold faO; rw [if_neg (fun q => by omega), if_pos ⟨rfl, rfl⟩]
      rw [hlf]
      refine go_aload_n (i := 0) (pc := 42) dX12_log_42 rfl rfl ?_
      refine go_iload_n (i := 1) (pc := 43) dX12_log_43 rfl rfl ?_
      refine go_bipush (nI 60) (pc := 44) dX12_log_44 (by decide) ?_
      refine go_iload_n (i := 2) (pc := 46) dX12_log_46 rfl rfl ?_
      refine go_callV ml_X12_196 mt_X12_faultOf (pc := 47) dX12_log_47 (c_X12_faultOf (b := true) hK hL (by decide)) (by rfl) rfl (by rfl) (by decide) (by decide) rfl rfl (Nat.le_of_ble_eq_true rfl) (fun r σ' hp => ?_)
      obtain ⟨rfl, hσ⟩ := hp
      rw [hσ]
      clear hσ
      dsimp only [zRet]
      refine go_top (congrArg Value.int hfo) ?_
      refine go_istore_n (i := 3) (pc := 50) dX12_log_50 rfl (by decide) ?_
      refine go_iload_n (i := 3) (pc := 51) dX12_log_51 rfl rfl ?_
      refine go_if_ge 57 (pc := 52) dX12_log_52 (by decide) (fun h52 => ?_) (fun h52 => ?_)
      · refine go_aload_n (i := 0) (pc := 57) dX12_log_57 rfl rfl ?_
        refine go_callV ml_X12_310 mt_X12_putsBy (pc := 58) dX12_log_58 (c_X12_putsBy (hN.2.2.fr hF (by decide)) (hU.fr hF (by decide) (by decide))) (by rfl) rfl (by rfl) (by decide) (by decide) rfl rfl (Nat.le_of_ble_eq_true rfl) (fun r σ' hp => ?_)
        obtain ⟨rfl, hU2, hS2, hFd⟩ := hp
        dsimp only [zRet]
        have hF2 := (hF.mono (fs2 := [0, 15, 16, 17, 18, 35]) (js2 := [15, 17, 18, 19]) (by simp) (by simp)).tr (hFd.mono (by simp) (by simp))
        refine go_iconst (nI 0) (pc := 61) dX12_log_61 (by decide) ?_
        refine go_istore (pc := 62) dX12_log_62 (by decide) ?_
        refine go_drop [0, 4] rfl ?_
        refine run h60 K hK30 (by omega) 0 ld.2 _ (Nat.zero_le _) rfl (fun i hi => by have := hmono i hi; omega) hok (by omega) (by omega) ((hN.2.2.fr hF (by decide)).fr hFd (by decide)) (fun j hj => ⟨(hA j hj).1.fr hFd (by decide) (by decide) (by decide), (hA j hj).2⟩) (by rw [hFd.2.1 _ (by decide)]; exact h35) hU2 hS2 (hTt.fr hFd (by decide) (by decide)) (hF2.mono (by simp) (by simp))
      · exact absurd (by decide) h52
    · have hlf : logF tx.1 tx.2 = some 60 := by unfold logF; rw [hq]; dsimp only; rw [if_pos (by omega)]
      have hfo : faO tx.1 60 true (min tx.1 60) (min tx.1 60) = mF 60 := by unfold faO; rw [if_pos ⟨by omega, Or.inl ⟨rfl, rfl⟩⟩]
      rw [hlf]
      refine go_aload_n (i := 0) (pc := 42) dX12_log_42 rfl rfl ?_
      refine go_iload_n (i := 1) (pc := 43) dX12_log_43 rfl rfl ?_
      refine go_bipush (nI 60) (pc := 44) dX12_log_44 (by decide) ?_
      refine go_iload_n (i := 2) (pc := 46) dX12_log_46 rfl rfl ?_
      refine go_callV ml_X12_196 mt_X12_faultOf (pc := 47) dX12_log_47 (c_X12_faultOf (b := true) hK hL (by decide)) (by rfl) rfl (by rfl) (by decide) (by decide) rfl rfl (Nat.le_of_ble_eq_true rfl) (fun r σ' hp => ?_)
      obtain ⟨rfl, hσ⟩ := hp
      rw [hσ]
      clear hσ
      dsimp only [zRet]
      refine go_top (congrArg Value.int hfo) ?_
      refine go_istore_n (i := 3) (pc := 50) dX12_log_50 rfl (by decide) ?_
      refine go_iload_n (i := 3) (pc := 51) dX12_log_51 rfl rfl ?_
      refine go_if_ge 57 (pc := 52) dX12_log_52 (by decide) (fun h52 => ?_) (fun h52 => ?_)
      · exfalso
        rw [zi_ge0] at h52
        have := mF_nn (q := 60) (by decide)
        omega
      · refine go_iload_n (i := 3) (pc := 55) dX12_log_55 rfl rfl ?_
        refine go_ireturn (pc := 56) dX12_log_56 rfl ?_
        exact ⟨rfl, ⟨(hC.1).fr hF (by decide) (by decide), hTt, (hC.2.2.1).fr hF (by decide) (by decide) (by decide), (hC.2.2.2.1).fr hF (by decide) (by decide), (hC.2.2.2.2.1).fr hF (by decide) (by decide) (by decide), (hC.2.2.2.2.2.1).fr hF (by decide) (by decide), (hC.2.2.2.2.2.2.1).fr hF (by decide) (by decide), (hC.2.2.2.2.2.2.2.1).fr hF (by decide) (by decide), (hC.2.2.2.2.2.2.2.2.1).fr hF (by decide) (by decide) (by decide), (hC.2.2.2.2.2.2.2.2.2).fr hF (by decide) (by decide)⟩, hF.1⟩
  have loop : ∀ (z k : Nat) (τ : zT), (min tx.1 60) - lPos tx.2 k = z → lPos tx.2 k ≤ (min tx.1 60) → (∀ i, i ≤ k → lPos tx.2 i + 2 * (k - i) ≤ lPos tx.2 k) → logQ tx.1 tx.2 = logR tx.2 (min tx.1 60) (61 - k) (lPos tx.2 k) → Cur τ tx.2 (lPos tx.2 k) (min tx.1 60) → τ.1 33 35 = nI k → (∀ j, j < k → ActIs τ tx.2 j (lPos tx.2 j) ∧ (aOne tx.2 (min tx.1 60) (lPos tx.2 j)).1 = true) → TapeIs τ 0 tx.2 → Fr9 [0, 15, 16, 17, 18, 35] [17, 18, 19] σ τ → GoM E 11 RX12 cX12_log 5 (some .int) (fun r σ' => r = some (.int (match logF tx.1 tx.2 with | none => nI (logE (vOf bd sk xs ld.1) tx.2 tx.1 ld.2).1 | some q => mF q)) ∧ RefIs σ' (0, tx.2) bd sk tw xs (match logF tx.1 tx.2 with | none => (ld.1, (logE (vOf bd sk xs ld.1) tx.2 tx.1 ld.2).2.2) | some _ => ld) (match logF tx.1 tx.2 with | none => (if 0 < (logE (vOf bd sk xs ld.1) tx.2 tx.1 ld.2).1 then (min (pa.1 + 1) 15, pushH pa.2 pa.1 ld.2) else pa) | some _ => pa) sh ru (match logF tx.1 tx.2 with | none => (2, ln2 (lN (logE (vOf bd sk xs ld.1) tx.2 tx.1 ld.2).2.1) (lN ((logE (vOf bd sk xs ld.1) tx.2 tx.1 ld.2).2.2 28))) | some _ => to) ∧ FrG [33] σ σ') τ 19 [(0, .ref (zA E 33 0)), (1, .int (nI tx.1)), (2, .int (nI 1))] [] := by
    intro z
    induction z using Nat.strongRecOn with
    | ind z ih =>
      intro k τ hz hpl hmono hQ hK h35 hA hTt hF
      have h0 := hmono 0 (Nat.zero_le _)
      have h00 : lPos tx.2 0 = 0 := rfl
      have hQ2 := hQ
      rw [show 61 - k = (60 - k) + 1 by omega, logR] at hQ2
      refine go_iload_n (i := 2) (pc := 19) dX12_log_19 rfl rfl ?_
      refine go_if_eq 42 (pc := 20) dX12_log_20 (by decide) (fun h20 => ?_) (fun h20 => ?_)
      · exact absurd h20 (by decide)
      · refine go_aload_n (i := 0) (pc := 23) dX12_log_23 rfl rfl ?_
        refine go_geti fl_X12_121 (pc := 24) dX12_log_24 (by rfl) ?_
        rw [hK.1]
        refine go_aload_n (i := 0) (pc := 27) dX12_log_27 rfl rfl ?_
        refine go_geti fl_X12_133 (pc := 28) dX12_log_28 (by rfl) ?_
        rw [hK.2.1]
        refine go_icmp_ge 42 (pc := 31) dX12_log_31 (by decide) (fun h31 => ?_) (fun h31 => ?_)
        · first | rw [nI_leI (by omega) (by omega)] at h31 | rw [zi_leN (by omega)] at h31 | rw [zi_Nle (by omega)] at h31 | rw [zi_le] at h31
          have e : lPos tx.2 k = (min tx.1 60) := by omega
          rw [if_pos (by omega)] at hQ2
          exact fin2 k τ hQ2 e (by omega) (fun i hi => by have := hmono i hi; omega) (by rw [e] at hK; exact hK) h35 hA hTt hF
        · first | rw [nI_leI (by omega) (by omega)] at h31 | rw [zi_leN (by omega)] at h31 | rw [zi_Nle (by omega)] at h31 | rw [zi_le] at h31
          refine go_aload_n (i := 0) (pc := 34) dX12_log_34 rfl rfl ?_
          refine go_callV ml_X12_350 mt_X12_readsAct (pc := 35) dX12_log_35 (c_X12_readsAct hK (by omega) h35 (by omega)) (by rfl) rfl (by rfl) (by decide) (by decide) rfl rfl (Nat.le_of_ble_eq_true rfl) (fun r σ' hp => ?_)
          obtain ⟨rfl, hK2, hac, hlo, hFd⟩ := hp
          dsimp only [zRet]
          have hF2 := hF.tr (hFd.mono (by simp) (by simp))
          have hT2 := hTt.fr hFd (by decide) (by decide)
          rw [if_neg (by omega)] at hQ2
          refine go_istore_n (i := 2) (pc := 38) dX12_log_38 rfl (by decide) ?_
          refine go_goto 19 (pc := 39) dX12_log_39 (by decide) ?_
          cases hok1 : (aOne tx.2 (min tx.1 60) (lPos tx.2 k)).1 with
          | false =>
            rw [if_pos hok1] at hQ2
            refine go_iload_n (i := 2) (pc := 19) dX12_log_19 rfl rfl ?_
            refine go_if_eq 42 (pc := 20) dX12_log_20 (by decide) (fun h20b => ?_) (fun h20b => absurd rfl h20b)
            exact fin1 _ _ hQ2 hK2.2.2.1 hK2 hT2 hF2
          | true =>
            have hat := aOne_t hok1
            have hp1 : lPos tx.2 (k + 1) = (aOne tx.2 (min tx.1 60) (lPos tx.2 k)).2 := hat.1.symm
            have hal : 2 ≤ aLen (tx.2 (lPos tx.2 k)) := by rcases hat.2.2.2 with q | q <;> omega
            rw [if_neg (by rw [hok1]; decide), ← hp1] at hQ2
            rw [← hp1] at hK2
            have hpk : lPos tx.2 (k + 1) = lPos tx.2 k + aLen (tx.2 (lPos tx.2 k)) := rfl
            refine ih ((min tx.1 60) - lPos tx.2 (k + 1)) (by omega) (k + 1) _ rfl (by omega) (fun i hi => ?_) (by rw [show 61 - (k + 1) = 60 - k by omega]; exact hQ2) hK2 (hac hok1).1 (fun j hj => ?_) hT2 hF2
            · by_cases e : i = k + 1
              · rw [e]; omega
              · have := hmono i (by omega); omega
            · by_cases e : j = k
              · rw [e]; exact ⟨(hac hok1).2, hok1⟩
              · exact ⟨(hA j (by omega)).1.lo (hlo j (by omega)), (hA j (by omega)).2⟩
  refine go_aload_n (i := 0) (pc := 0) dX12_log_0 rfl rfl ?_
  refine go_iconst (nI 0) (pc := 1) dX12_log_1 (by decide) ?_
  refine go_puti fp_X12_97 (pc := 2) dX12_log_2 (by rfl) rfl rfl ?_
  have hF0 : Fr9 [0] [] σ (uS σ 33 0 (nI 0)) := Fr9.rf.uS (by simp)
  refine go_aload_n (i := 0) (pc := 5) dX12_log_5 rfl rfl ?_
  refine go_bipush (nI 60) (pc := 6) dX12_log_6 (by decide) ?_
  refine go_callV ml_X12_166 mt_X12_begins (pc := 8) dX12_log_8 (c_X12_begins (most := 60) (hT.fr hF0 (by decide) (by decide)) (by decide)) (by rfl) rfl (by rfl) (by decide) (by decide) rfl rfl (Nat.le_of_ble_eq_true rfl) (fun r σ' hp => ?_)
  obtain ⟨rfl, hK, hTt, -, hFb⟩ := hp
  dsimp only [zRet]
  have hFx : Fr9 [0, 15, 16, 17, 18, 35] [17, 18, 19] σ σ' := (hF0.mono (by simp) (by simp)).tr (hFb.mono (by simp) (by simp))
  refine go_istore_n (i := 1) (pc := 11) dX12_log_11 rfl (by decide) ?_
  refine go_aload_n (i := 0) (pc := 12) dX12_log_12 rfl rfl ?_
  refine go_iconst (nI 0) (pc := 13) dX12_log_13 (by decide) ?_
  refine go_puti fp_X12_340 (pc := 14) dX12_log_14 (by rfl) rfl rfl ?_
  refine go_iconst (nI 1) (pc := 17) dX12_log_17 (by decide) ?_
  refine go_istore_n (i := 2) (pc := 18) dX12_log_18 rfl (by decide) ?_
  exact loop _ 0 _ rfl (Nat.zero_le _) (fun i hi => (by rw [show i = 0 by omega]; exact Nat.le_refl _)) rfl (hK.fr (fs := [35]) (js := []) (Fr9.rf.uS (by simp)) (by decide) (by decide) (by decide)) (uS_s _ _ _ _) (fun j hj => absurd hj (Nat.not_lt_zero _)) (hTt.fr (fs := [35]) (js := []) (Fr9.rf.uS (by simp)) (by decide) (by decide)) (hFx.uS (by simp))

