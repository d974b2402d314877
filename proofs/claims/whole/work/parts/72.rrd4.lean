theorem c_X12_readsSort {E : zE} {σ : zT} {f : Nat → Nat} {p lim nc s : Nat} (hK : Cur σ f p lim) (h4 : σ.1 33 5 = nI nc) (h20 : σ.1 33 20 = nI s) (h8 : nc + s < 8) : CalM E 3 yX12_readsSort cX12_readsSort 2 (some .boolean) [.ref (zA E 33 0)] σ (fun r σ' => r = some (.int (zb (mLn f lim p).1)) ∧ Cur σ' f (mLn f lim p).2.1 lim ∧ ((mLn f lim p).1 = true → σ'.1 33 20 = nI (s + 1) ∧ σ'.2.1 33 10 (2 * s) = nI (mLn f lim p).2.2.1 ∧ σ'.2.1 33 10 (2 * s + 1) = nI (mLn f lim p).2.2.2) ∧ (∀ j, j < 2 * s → σ'.2.1 33 10 j = σ.2.1 33 10 j) ∧ Fr9 [16, 20] [10] σ σ') := by
  refine cal_of_go (own := RX12) rfl (by decide +kernel) (Nat.le_of_ble_eq_true rfl) ?_
  have hfb := fun i (h : i < 80) => (hK.2.2.2.2 i h).2
  have hl80 := hK.2.2.2.1
  have hpl := hK.2.2.1
  have d1 := tDig_le f lim p 2
  have i1 := fun i (h : i < (tDig f lim p 2)) => tDig_in (f := f) (lim := lim) (m := 2) (a := p) h
  have n1 := tNum_2 d1 (fun i h => (i1 i h).2)
  have b1 : p + (tDig f lim p 2) ≤ lim := by
    rcases Nat.eq_zero_or_pos (tDig f lim p 2) with e | e
    · omega
    · have := (i1 ((tDig f lim p 2) - 1) (by omega)).1; omega
  by_cases hd0 : (tDig f lim p 2) = 0
  · have ec : mLn f lim p = (false, p, 0, 0) := by unfold mLn; rw [if_pos hd0]
    refine go_aload_n (i := 0) (pc := 0) dX12_readsSort_0 rfl rfl ?_
    refine go_geti fl_X12_200 (pc := 1) dX12_readsSort_1 (by rfl) ?_
    rw [h4]
    refine go_aload_n (i := 0) (pc := 4) dX12_readsSort_4 rfl rfl ?_
    refine go_geti fl_X12_169 (pc := 5) dX12_readsSort_5 (by rfl) ?_
    rw [h20]
    first | with_reducible refine go_iaddN (pc := 8) dX12_readsSort_8 ?_ | refine go_iadd (pc := 8) dX12_readsSort_8 ?_
    refine go_bipush (nI 8) (pc := 9) dX12_readsSort_9 (by decide) ?_
    refine go_icmp_ne 16 (pc := 11) dX12_readsSort_11 (by decide) (fun h11 => ?_) (fun h11 => ?_)
    · first | rw [nI_eq (by omega) (by omega)] at h11 | rw [zi_eqN (by omega)] at h11 | rw [zi_Neq (by omega)] at h11 | rw [zi_eq] at h11
      refine go_iconst (nI 2) (pc := 16) dX12_readsSort_16 (by decide) ?_
      refine go_aload_n (i := 0) (pc := 17) dX12_readsSort_17 rfl rfl ?_
      refine go_geti fl_X12_169 (pc := 18) dX12_readsSort_18 (by rfl) ?_
      rw [h20]
      first | with_reducible refine go_imulN (pc := 21) dX12_readsSort_21 ?_ | refine go_imul (pc := 21) dX12_readsSort_21 ?_
      refine go_istore_n (i := 1) (pc := 22) dX12_readsSort_22 rfl (by decide) ?_
      refine go_aload_n (i := 0) (pc := 23) dX12_readsSort_23 rfl rfl ?_
      refine go_getr2 fl_X12_45 (pc := 24) dX12_readsSort_24 (by rfl) (by rfl) (by rfl) ?_
      refine go_iload_n (i := 1) (pc := 27) dX12_readsSort_27 rfl rfl ?_
      refine go_aload_n (i := 0) (pc := 28) dX12_readsSort_28 rfl rfl ?_
      refine go_iconst (nI 2) (pc := 29) dX12_readsSort_29 (by decide) ?_
      refine go_callV ml_X12_162 mt_X12_number (pc := 30) dX12_readsSort_30 (c_X12_number (D := 2) hK (by decide) (by decide)) (by rfl) rfl (by rfl) (by decide) (by decide) rfl rfl (Nat.le_of_ble_eq_true rfl) (fun r σ' hp => ?_)
      obtain ⟨rfl, hK2, hFd⟩ := hp
      dsimp only [zRet]
      rw [if_pos hd0]
      refine go_iastore (2 * s) (pc := 33) dX12_readsSort_33 rfl rfl rfl (by omega) ?_
      have hF1 : Fr9 [16, 20] [10] σ (uA σ' 33 10 (upd (σ'.2.1 33 10) (2 * s) (-1))) := (hFd.mono (by simp) (by simp)).uA (by simp)
      have hK1 : Cur (uA σ' 33 10 (upd (σ'.2.1 33 10) (2 * s) (-1))) f _ lim := hK2.fr (fs := []) (js := [10]) (Fr9.rf.uA (by simp)) (by decide) (by decide) (by decide)
      have h201 : (uA σ' 33 10 (upd (σ'.2.1 33 10) (2 * s) (-1))).1 33 20 = nI s := by rw [uA_1, hFd.2.1 _ (by decide)]; exact h20
      have hr1 : (uA σ' 33 10 (upd (σ'.2.1 33 10) (2 * s) (-1))).2.1 33 10 (2 * s) = (-1) := by rw [uA_s, upd_at, if_pos rfl]
      have hlo1 : ∀ j, j < 2 * s → (uA σ' 33 10 (upd (σ'.2.1 33 10) (2 * s) (-1))).2.1 33 10 j = σ.2.1 33 10 j := fun j hj => by rw [uA_s, upd_at, if_neg (by omega), hFd.2.2.1 10 (by decide)]
      generalize uA σ' 33 10 (upd (σ'.2.1 33 10) (2 * s) (-1)) = τ1 at hF1 hK1 h201 hr1 hlo1 ⊢
      refine go_aload_n (i := 0) (pc := 34) dX12_readsSort_34 rfl rfl ?_
      refine go_getr2 fl_X12_45 (pc := 35) dX12_readsSort_35 (by rfl) (by rfl) (by rfl) ?_
      refine go_iload_n (i := 1) (pc := 38) dX12_readsSort_38 rfl rfl ?_
      refine go_iaload _ (pc := 39) dX12_readsSort_39 (by first | rfl | (apply zM_ar <;> assumption)) (by first | rfl | (apply zM_jn <;> assumption)) rfl (by first | assumption | omega) ?_
      rw [hr1]
      refine go_if_ne 55 (pc := 40) dX12_readsSort_40 (by decide) (fun h40 => ?_) (fun h40 => ?_)
      · refine go_aload_n (i := 0) (pc := 55) dX12_readsSort_55 rfl rfl ?_
        refine go_getr2 fl_X12_45 (pc := 56) dX12_readsSort_56 (by rfl) (by rfl) (by rfl) ?_
        refine go_iload_n (i := 1) (pc := 59) dX12_readsSort_59 rfl rfl ?_
        refine go_iaload _ (pc := 60) dX12_readsSort_60 (by first | rfl | (apply zM_ar <;> assumption)) (by first | rfl | (apply zM_jn <;> assumption)) rfl (by first | assumption | omega) ?_
        rw [hr1]
        refine go_if_lt 73 (pc := 61) dX12_readsSort_61 (by decide) (fun h61 => ?_) (fun h61 => ?_)
        · refine go_iconst (nI 0) (pc := 73) dX12_readsSort_73 (by decide) ?_
          refine go_zreturn (pc := 74) dX12_readsSort_74 rfl rfl ?_
          rw [ec]
          exact ⟨rfl, (by rw [hd0] at hK1; exact hK1), fun h => (by cases h), hlo1, hF1⟩
        · exact absurd (by decide) h61
      · exact absurd h40 (by decide)
    · first | rw [nI_eq (by omega) (by omega)] at h11 | rw [zi_eqN (by omega)] at h11 | rw [zi_Neq (by omega)] at h11 | rw [zi_eq] at h11
      exfalso; omega
  · by_cases hd1 : (tNum f p (tDig f lim p 2) 0) = 0
    · have ec : mLn f lim p = (false, p + (tDig f lim p 2) - 1, 0, 0) := by unfold mLn; rw [if_neg hd0, if_pos hd1]
      refine go_aload_n (i := 0) (pc := 0) dX12_readsSort_0 rfl rfl ?_
      refine go_geti fl_X12_200 (pc := 1) dX12_readsSort_1 (by rfl) ?_
      rw [h4]
      refine go_aload_n (i := 0) (pc := 4) dX12_readsSort_4 rfl rfl ?_
      refine go_geti fl_X12_169 (pc := 5) dX12_readsSort_5 (by rfl) ?_
      rw [h20]
      first | with_reducible refine go_iaddN (pc := 8) dX12_readsSort_8 ?_ | refine go_iadd (pc := 8) dX12_readsSort_8 ?_
      refine go_bipush (nI 8) (pc := 9) dX12_readsSort_9 (by decide) ?_
      refine go_icmp_ne 16 (pc := 11) dX12_readsSort_11 (by decide) (fun h11 => ?_) (fun h11 => ?_)
      · first | rw [nI_eq (by omega) (by omega)] at h11 | rw [zi_eqN (by omega)] at h11 | rw [zi_Neq (by omega)] at h11 | rw [zi_eq] at h11
        refine go_iconst (nI 2) (pc := 16) dX12_readsSort_16 (by decide) ?_
        refine go_aload_n (i := 0) (pc := 17) dX12_readsSort_17 rfl rfl ?_
        refine go_geti fl_X12_169 (pc := 18) dX12_readsSort_18 (by rfl) ?_
        rw [h20]
        first | with_reducible refine go_imulN (pc := 21) dX12_readsSort_21 ?_ | refine go_imul (pc := 21) dX12_readsSort_21 ?_
        refine go_istore_n (i := 1) (pc := 22) dX12_readsSort_22 rfl (by decide) ?_
        refine go_aload_n (i := 0) (pc := 23) dX12_readsSort_23 rfl rfl ?_
        refine go_getr2 fl_X12_45 (pc := 24) dX12_readsSort_24 (by rfl) (by rfl) (by rfl) ?_
        refine go_iload_n (i := 1) (pc := 27) dX12_readsSort_27 rfl rfl ?_
        refine go_aload_n (i := 0) (pc := 28) dX12_readsSort_28 rfl rfl ?_
        refine go_iconst (nI 2) (pc := 29) dX12_readsSort_29 (by decide) ?_
        refine go_callV ml_X12_162 mt_X12_number (pc := 30) dX12_readsSort_30 (c_X12_number (D := 2) hK (by decide) (by decide)) (by rfl) rfl (by rfl) (by decide) (by decide) rfl rfl (Nat.le_of_ble_eq_true rfl) (fun r σ' hp => ?_)
        obtain ⟨rfl, hK2, hFd⟩ := hp
        dsimp only [zRet]
        rw [if_neg hd0]
        refine go_iastore (2 * s) (pc := 33) dX12_readsSort_33 rfl rfl rfl (by omega) ?_
        have hF1 : Fr9 [16, 20] [10] σ (uA σ' 33 10 (upd (σ'.2.1 33 10) (2 * s) (nI (tNum f p (tDig f lim p 2) 0)))) := (hFd.mono (by simp) (by simp)).uA (by simp)
        have hK1 : Cur (uA σ' 33 10 (upd (σ'.2.1 33 10) (2 * s) (nI (tNum f p (tDig f lim p 2) 0)))) f _ lim := hK2.fr (fs := []) (js := [10]) (Fr9.rf.uA (by simp)) (by decide) (by decide) (by decide)
        have h201 : (uA σ' 33 10 (upd (σ'.2.1 33 10) (2 * s) (nI (tNum f p (tDig f lim p 2) 0)))).1 33 20 = nI s := by rw [uA_1, hFd.2.1 _ (by decide)]; exact h20
        have hr1 : (uA σ' 33 10 (upd (σ'.2.1 33 10) (2 * s) (nI (tNum f p (tDig f lim p 2) 0)))).2.1 33 10 (2 * s) = (nI (tNum f p (tDig f lim p 2) 0)) := by rw [uA_s, upd_at, if_pos rfl]
        have hlo1 : ∀ j, j < 2 * s → (uA σ' 33 10 (upd (σ'.2.1 33 10) (2 * s) (nI (tNum f p (tDig f lim p 2) 0)))).2.1 33 10 j = σ.2.1 33 10 j := fun j hj => by rw [uA_s, upd_at, if_neg (by omega), hFd.2.2.1 10 (by decide)]
        generalize uA σ' 33 10 (upd (σ'.2.1 33 10) (2 * s) (nI (tNum f p (tDig f lim p 2) 0))) = τ1 at hF1 hK1 h201 hr1 hlo1 ⊢
        refine go_aload_n (i := 0) (pc := 34) dX12_readsSort_34 rfl rfl ?_
        refine go_getr2 fl_X12_45 (pc := 35) dX12_readsSort_35 (by rfl) (by rfl) (by rfl) ?_
        refine go_iload_n (i := 1) (pc := 38) dX12_readsSort_38 rfl rfl ?_
        refine go_iaload _ (pc := 39) dX12_readsSort_39 (by first | rfl | (apply zM_ar <;> assumption)) (by first | rfl | (apply zM_jn <;> assumption)) rfl (by first | assumption | omega) ?_
        rw [hr1]
        refine go_if_ne 55 (pc := 40) dX12_readsSort_40 (by decide) (fun h40 => ?_) (fun h40 => ?_)
        · exact absurd (by rw [hd1]; rfl) h40
        · refine go_aload_n (i := 0) (pc := 43) dX12_readsSort_43 rfl rfl ?_
          refine go_dup (pc := 44) dX12_readsSort_44 rfl ?_
          refine go_geti fl_X12_121 (pc := 45) dX12_readsSort_45 (by rfl) ?_
          rw [hK1.1]
          refine go_iconst (nI 1) (pc := 48) dX12_readsSort_48 (by decide) ?_
          refine go_isubN (pc := 49) dX12_readsSort_49 (by omega) ?_
          refine go_puti fp_X12_121 (pc := 50) dX12_readsSort_50 (by rfl) rfl rfl ?_
          refine go_iconst (nI 0) (pc := 53) dX12_readsSort_53 (by decide) ?_
          refine go_zreturn (pc := 54) dX12_readsSort_54 rfl rfl ?_
          rw [ec]
          exact ⟨rfl, hK1.mv (fs := [16]) (js := []) (Fr9.rf.uS (by simp)) (uS_s _ _ _ _) (by dsimp only; omega) (by decide) (by decide), fun h => (by cases h), hlo1, hF1.uS (by simp)⟩
      · first | rw [nI_eq (by omega) (by omega)] at h11 | rw [zi_eqN (by omega)] at h11 | rw [zi_Neq (by omega)] at h11 | rw [zi_eq] at h11
        exfalso; omega
    · by_cases hd2 : p + (tDig f lim p 2) < lim ∧ f (p + (tDig f lim p 2)) = 44
      · have hd2n : ¬ (lim ≤ p + (tDig f lim p 2) ∨ f (p + (tDig f lim p 2)) ≠ 44) := by omega
        have d2 := tDig_le f lim (p + tDig f lim p 2 + 1) 2
        have i2 := fun i (h : i < (tDig f lim (p + tDig f lim p 2 + 1) 2)) => tDig_in (f := f) (lim := lim) (m := 2) (a := (p + tDig f lim p 2 + 1)) h
        have n2 := tNum_2 d2 (fun i h => (i2 i h).2)
        by_cases hd3 : (tDig f lim (p + tDig f lim p 2 + 1) 2) = 0
        · have ec : mLn f lim p = (false, (p + tDig f lim p 2 + 1), 0, 0) := by unfold mLn; rw [if_neg hd0, if_neg hd1, if_neg hd2n, if_pos hd3]
          refine go_aload_n (i := 0) (pc := 0) dX12_readsSort_0 rfl rfl ?_
          refine go_geti fl_X12_200 (pc := 1) dX12_readsSort_1 (by rfl) ?_
          rw [h4]
          refine go_aload_n (i := 0) (pc := 4) dX12_readsSort_4 rfl rfl ?_
          refine go_geti fl_X12_169 (pc := 5) dX12_readsSort_5 (by rfl) ?_
          rw [h20]
          first | with_reducible refine go_iaddN (pc := 8) dX12_readsSort_8 ?_ | refine go_iadd (pc := 8) dX12_readsSort_8 ?_
          refine go_bipush (nI 8) (pc := 9) dX12_readsSort_9 (by decide) ?_
          refine go_icmp_ne 16 (pc := 11) dX12_readsSort_11 (by decide) (fun h11 => ?_) (fun h11 => ?_)
          · first | rw [nI_eq (by omega) (by omega)] at h11 | rw [zi_eqN (by omega)] at h11 | rw [zi_Neq (by omega)] at h11 | rw [zi_eq] at h11
            refine go_iconst (nI 2) (pc := 16) dX12_readsSort_16 (by decide) ?_
            refine go_aload_n (i := 0) (pc := 17) dX12_readsSort_17 rfl rfl ?_
            refine go_geti fl_X12_169 (pc := 18) dX12_readsSort_18 (by rfl) ?_
            rw [h20]
            first | with_reducible refine go_imulN (pc := 21) dX12_readsSort_21 ?_ | refine go_imul (pc := 21) dX12_readsSort_21 ?_
            refine go_istore_n (i := 1) (pc := 22) dX12_readsSort_22 rfl (by decide) ?_
            refine go_aload_n (i := 0) (pc := 23) dX12_readsSort_23 rfl rfl ?_
            refine go_getr2 fl_X12_45 (pc := 24) dX12_readsSort_24 (by rfl) (by rfl) (by rfl) ?_
            refine go_iload_n (i := 1) (pc := 27) dX12_readsSort_27 rfl rfl ?_
            refine go_aload_n (i := 0) (pc := 28) dX12_readsSort_28 rfl rfl ?_
            refine go_iconst (nI 2) (pc := 29) dX12_readsSort_29 (by decide) ?_
            refine go_callV ml_X12_162 mt_X12_number (pc := 30) dX12_readsSort_30 (c_X12_number (D := 2) hK (by decide) (by decide)) (by rfl) rfl (by rfl) (by decide) (by decide) rfl rfl (Nat.le_of_ble_eq_true rfl) (fun r σ' hp => ?_)
            obtain ⟨rfl, hK2, hFd⟩ := hp
            dsimp only [zRet]
            rw [if_neg hd0]
            refine go_iastore (2 * s) (pc := 33) dX12_readsSort_33 rfl rfl rfl (by omega) ?_
            have hF1 : Fr9 [16, 20] [10] σ (uA σ' 33 10 (upd (σ'.2.1 33 10) (2 * s) (nI (tNum f p (tDig f lim p 2) 0)))) := (hFd.mono (by simp) (by simp)).uA (by simp)
            have hK1 : Cur (uA σ' 33 10 (upd (σ'.2.1 33 10) (2 * s) (nI (tNum f p (tDig f lim p 2) 0)))) f _ lim := hK2.fr (fs := []) (js := [10]) (Fr9.rf.uA (by simp)) (by decide) (by decide) (by decide)
            have h201 : (uA σ' 33 10 (upd (σ'.2.1 33 10) (2 * s) (nI (tNum f p (tDig f lim p 2) 0)))).1 33 20 = nI s := by rw [uA_1, hFd.2.1 _ (by decide)]; exact h20
            have hr1 : (uA σ' 33 10 (upd (σ'.2.1 33 10) (2 * s) (nI (tNum f p (tDig f lim p 2) 0)))).2.1 33 10 (2 * s) = (nI (tNum f p (tDig f lim p 2) 0)) := by rw [uA_s, upd_at, if_pos rfl]
            have hlo1 : ∀ j, j < 2 * s → (uA σ' 33 10 (upd (σ'.2.1 33 10) (2 * s) (nI (tNum f p (tDig f lim p 2) 0)))).2.1 33 10 j = σ.2.1 33 10 j := fun j hj => by rw [uA_s, upd_at, if_neg (by omega), hFd.2.2.1 10 (by decide)]
            generalize uA σ' 33 10 (upd (σ'.2.1 33 10) (2 * s) (nI (tNum f p (tDig f lim p 2) 0))) = τ1 at hF1 hK1 h201 hr1 hlo1 ⊢
            refine go_aload_n (i := 0) (pc := 34) dX12_readsSort_34 rfl rfl ?_
            refine go_getr2 fl_X12_45 (pc := 35) dX12_readsSort_35 (by rfl) (by rfl) (by rfl) ?_
            refine go_iload_n (i := 1) (pc := 38) dX12_readsSort_38 rfl rfl ?_
            refine go_iaload _ (pc := 39) dX12_readsSort_39 (by first | rfl | (apply zM_ar <;> assumption)) (by first | rfl | (apply zM_jn <;> assumption)) rfl (by first | assumption | omega) ?_
            rw [hr1]
            refine go_if_ne 55 (pc := 40) dX12_readsSort_40 (by decide) (fun h40 => ?_) (fun h40 => ?_)
            · refine go_aload_n (i := 0) (pc := 55) dX12_readsSort_55 rfl rfl ?_
              refine go_getr2 fl_X12_45 (pc := 56) dX12_readsSort_56 (by rfl) (by rfl) (by rfl) ?_
              refine go_iload_n (i := 1) (pc := 59) dX12_readsSort_59 rfl rfl ?_
              refine go_iaload _ (pc := 60) dX12_readsSort_60 (by first | rfl | (apply zM_ar <;> assumption)) (by first | rfl | (apply zM_jn <;> assumption)) rfl (by first | assumption | omega) ?_
              rw [hr1]
              refine go_if_lt 73 (pc := 61) dX12_readsSort_61 (by decide) (fun h61 => ?_) (fun h61 => ?_)
              · exact absurd h61 (nI_pos (by omega))
              · refine go_aload_n (i := 0) (pc := 64) dX12_readsSort_64 rfl rfl ?_
                refine go_bipush (nI 44) (pc := 65) dX12_readsSort_65 (by decide) ?_
                refine go_callV ml_X12_192 mt_X12_takes (pc := 67) dX12_readsSort_67 (c_X12_takes (v := 44) hK1 (by decide)) (by rfl) rfl (by rfl) (by decide) (by decide) rfl rfl (Nat.le_of_ble_eq_true rfl) (fun r σ' hp => ?_)
                obtain ⟨rfl, hK2, hFe⟩ := hp
                dsimp only [zRet]
                rw [if_pos hd2] at hK2
                have hF1b := hF1.tr (hFe.mono (by simp) (by simp))
                have h201b : σ'.1 33 20 = nI s := by rw [hFe.2.1 _ (by decide)]; exact h201
                have hr1d : σ'.2.1 33 10 (2 * s) = (nI (tNum f p (tDig f lim p 2) 0)) := (by rw [hFe.2.2.1 10 (by decide)]; exact hr1)
                have hlo1b : ∀ j, j < 2 * s → σ'.2.1 33 10 j = σ.2.1 33 10 j := fun j hj => by rw [hFe.2.2.1 10 (by decide)]; exact hlo1 j hj
                refine go_if_ne 75 (pc := 70) dX12_readsSort_70 (by decide) (fun h70 => ?_) (fun h70 => ?_)
                · refine go_aload_n (i := 0) (pc := 75) dX12_readsSort_75 rfl rfl ?_
                  refine go_getr2 fl_X12_45 (pc := 76) dX12_readsSort_76 (by rfl) (by rfl) (by rfl) ?_
                  refine go_iload_n (i := 1) (pc := 79) dX12_readsSort_79 rfl rfl ?_
                  refine go_iconst (nI 1) (pc := 80) dX12_readsSort_80 (by decide) ?_
                  first | with_reducible refine go_iaddN (pc := 81) dX12_readsSort_81 ?_ | refine go_iadd (pc := 81) dX12_readsSort_81 ?_
                  refine go_aload_n (i := 0) (pc := 82) dX12_readsSort_82 rfl rfl ?_
                  refine go_iconst (nI 2) (pc := 83) dX12_readsSort_83 (by decide) ?_
                  refine go_callV ml_X12_162 mt_X12_number (pc := 84) dX12_readsSort_84 (c_X12_number (D := 2) hK2 (by decide) (by decide)) (by rfl) rfl (by rfl) (by decide) (by decide) rfl rfl (Nat.le_of_ble_eq_true rfl) (fun r σ' hp => ?_)
                  obtain ⟨rfl, hK2, hFg⟩ := hp
                  dsimp only [zRet]
                  rw [if_pos hd3]
                  have hF1c := hF1b.tr (hFg.mono (by simp) (by simp))
                  have h201c : σ'.1 33 20 = nI s := by rw [hFg.2.1 _ (by decide)]; exact h201b
                  have hr1c : σ'.2.1 33 10 (2 * s) = (nI (tNum f p (tDig f lim p 2) 0)) := (by rw [hFg.2.2.1 10 (by decide)]; exact hr1d)
                  have hlo1c : ∀ j, j < 2 * s → σ'.2.1 33 10 j = σ.2.1 33 10 j := fun j hj => by rw [hFg.2.2.1 10 (by decide)]; exact hlo1b j hj
                  refine go_iastore (2 * s + 1) (pc := 87) dX12_readsSort_87 rfl rfl rfl (by omega) ?_
                  have hF2 : Fr9 [16, 20] [10] σ (uA σ' 33 10 (upd (σ'.2.1 33 10) (2 * s + 1) (-1))) := hF1c.uA (by simp)
                  have hK3 : Cur (uA σ' 33 10 (upd (σ'.2.1 33 10) (2 * s + 1) (-1))) f _ lim := hK2.fr (fs := []) (js := [10]) (Fr9.rf.uA (by simp)) (by decide) (by decide) (by decide)
                  have h203 : (uA σ' 33 10 (upd (σ'.2.1 33 10) (2 * s + 1) (-1))).1 33 20 = nI s := h201c
                  have hr2 : (uA σ' 33 10 (upd (σ'.2.1 33 10) (2 * s + 1) (-1))).2.1 33 10 (2 * s + 1) = (-1) := by rw [uA_s, upd_at, if_pos rfl]
                  have hr1b : (uA σ' 33 10 (upd (σ'.2.1 33 10) (2 * s + 1) (-1))).2.1 33 10 (2 * s) = (nI (tNum f p (tDig f lim p 2) 0)) := by rw [uA_s, upd_at, if_neg (by omega)]; exact hr1c
                  have hlo2 : ∀ j, j < 2 * s → (uA σ' 33 10 (upd (σ'.2.1 33 10) (2 * s + 1) (-1))).2.1 33 10 j = σ.2.1 33 10 j := fun j hj => by rw [uA_s, upd_at, if_neg (by omega)]; exact hlo1c j hj
                  generalize uA σ' 33 10 (upd (σ'.2.1 33 10) (2 * s + 1) (-1)) = τ2 at hF2 hK3 h203 hr2 hr1b hlo2 ⊢
                  refine go_aload_n (i := 0) (pc := 88) dX12_readsSort_88 rfl rfl ?_
                  refine go_dup (pc := 89) dX12_readsSort_89 rfl ?_
                  refine go_geti fl_X12_169 (pc := 90) dX12_readsSort_90 (by rfl) ?_
                  rw [h203]
                  refine go_iconst (nI 1) (pc := 93) dX12_readsSort_93 (by decide) ?_
                  first | with_reducible refine go_iaddN (pc := 94) dX12_readsSort_94 ?_ | refine go_iadd (pc := 94) dX12_readsSort_94 ?_
                  refine go_puti fp_X12_169 (pc := 95) dX12_readsSort_95 (by rfl) rfl rfl ?_
                  refine go_aload_n (i := 0) (pc := 98) dX12_readsSort_98 rfl rfl ?_
                  refine go_getr2 fl_X12_45 (pc := 99) dX12_readsSort_99 (by rfl) (by rfl) (by rfl) ?_
                  refine go_iload_n (i := 1) (pc := 102) dX12_readsSort_102 rfl rfl ?_
                  refine go_iconst (nI 1) (pc := 103) dX12_readsSort_103 (by decide) ?_
                  first | with_reducible refine go_iaddN (pc := 104) dX12_readsSort_104 ?_ | refine go_iadd (pc := 104) dX12_readsSort_104 ?_
                  refine go_iaload _ (pc := 105) dX12_readsSort_105 (by first | rfl | (apply zM_ar <;> assumption)) (by first | rfl | (apply zM_jn <;> assumption)) rfl (by first | assumption | omega) ?_
                  rw [show (uS τ2 33 20 (nI (s + 1))).2.1 33 10 (2 * s + 1) = _ from hr2]
                  refine go_if_lt 113 (pc := 106) dX12_readsSort_106 (by decide) (fun h106 => ?_) (fun h106 => ?_)
                  · refine go_iconst (nI 0) (pc := 113) dX12_readsSort_113 (by decide) ?_
                    refine go_zreturn (pc := 114) dX12_readsSort_114 rfl (by first | rfl | (apply zb_nar)) ?_
                    rw [ec]
                    exact ⟨rfl, (show Cur τ2 f (p + tDig f lim p 2 + 1) lim by rw [hd3] at hK3; exact hK3).fr (fs := [20]) (js := []) (Fr9.rf.uS (by simp)) (by decide) (by decide) (by decide), fun h => (by cases h), hlo2, hF2.uS (by simp)⟩
                  · exact absurd (by decide) h106
                · rw [zb_0d] at h70
                  exact absurd hd2 h70
            · exact absurd h40 (by rw [zn_eq0 (by omega)]; exact hd1)
          · first | rw [nI_eq (by omega) (by omega)] at h11 | rw [zi_eqN (by omega)] at h11 | rw [zi_Neq (by omega)] at h11 | rw [zi_eq] at h11
            exfalso; omega
        · have ec : mLn f lim p = (true, (p + tDig f lim p 2 + 1) + (tDig f lim (p + tDig f lim p 2 + 1) 2), (tNum f p (tDig f lim p 2) 0), (tNum f (p + tDig f lim p 2 + 1) (tDig f lim (p + tDig f lim p 2 + 1) 2) 0)) := by unfold mLn; rw [if_neg hd0, if_neg hd1, if_neg hd2n, if_neg hd3]
          refine go_aload_n (i := 0) (pc := 0) dX12_readsSort_0 rfl rfl ?_
          refine go_geti fl_X12_200 (pc := 1) dX12_readsSort_1 (by rfl) ?_
          rw [h4]
          refine go_aload_n (i := 0) (pc := 4) dX12_readsSort_4 rfl rfl ?_
          refine go_geti fl_X12_169 (pc := 5) dX12_readsSort_5 (by rfl) ?_
          rw [h20]
          first | with_reducible refine go_iaddN (pc := 8) dX12_readsSort_8 ?_ | refine go_iadd (pc := 8) dX12_readsSort_8 ?_
          refine go_bipush (nI 8) (pc := 9) dX12_readsSort_9 (by decide) ?_
          refine go_icmp_ne 16 (pc := 11) dX12_readsSort_11 (by decide) (fun h11 => ?_) (fun h11 => ?_)
          · first | rw [nI_eq (by omega) (by omega)] at h11 | rw [zi_eqN (by omega)] at h11 | rw [zi_Neq (by omega)] at h11 | rw [zi_eq] at h11
            refine go_iconst (nI 2) (pc := 16) dX12_readsSort_16 (by decide) ?_
            refine go_aload_n (i := 0) (pc := 17) dX12_readsSort_17 rfl rfl ?_
            refine go_geti fl_X12_169 (pc := 18) dX12_readsSort_18 (by rfl) ?_
            rw [h20]
            first | with_reducible refine go_imulN (pc := 21) dX12_readsSort_21 ?_ | refine go_imul (pc := 21) dX12_readsSort_21 ?_
            refine go_istore_n (i := 1) (pc := 22) dX12_readsSort_22 rfl (by decide) ?_
            refine go_aload_n (i := 0) (pc := 23) dX12_readsSort_23 rfl rfl ?_
            refine go_getr2 fl_X12_45 (pc := 24) dX12_readsSort_24 (by rfl) (by rfl) (by rfl) ?_
            refine go_iload_n (i := 1) (pc := 27) dX12_readsSort_27 rfl rfl ?_
            refine go_aload_n (i := 0) (pc := 28) dX12_readsSort_28 rfl rfl ?_
            refine go_iconst (nI 2) (pc := 29) dX12_readsSort_29 (by decide) ?_
            refine go_callV ml_X12_162 mt_X12_number (pc := 30) dX12_readsSort_30 (c_X12_number (D := 2) hK (by decide) (by decide)) (by rfl) rfl (by rfl) (by decide) (by decide) rfl rfl (Nat.le_of_ble_eq_true rfl) (fun r σ' hp => ?_)
            obtain ⟨rfl, hK2, hFd⟩ := hp
            dsimp only [zRet]
            rw [if_neg hd0]
            refine go_iastore (2 * s) (pc := 33) dX12_readsSort_33 rfl rfl rfl (by omega) ?_
            have hF1 : Fr9 [16, 20] [10] σ (uA σ' 33 10 (upd (σ'.2.1 33 10) (2 * s) (nI (tNum f p (tDig f lim p 2) 0)))) := (hFd.mono (by simp) (by simp)).uA (by simp)
            have hK1 : Cur (uA σ' 33 10 (upd (σ'.2.1 33 10) (2 * s) (nI (tNum f p (tDig f lim p 2) 0)))) f _ lim := hK2.fr (fs := []) (js := [10]) (Fr9.rf.uA (by simp)) (by decide) (by decide) (by decide)
            have h201 : (uA σ' 33 10 (upd (σ'.2.1 33 10) (2 * s) (nI (tNum f p (tDig f lim p 2) 0)))).1 33 20 = nI s := by rw [uA_1, hFd.2.1 _ (by decide)]; exact h20
            have hr1 : (uA σ' 33 10 (upd (σ'.2.1 33 10) (2 * s) (nI (tNum f p (tDig f lim p 2) 0)))).2.1 33 10 (2 * s) = (nI (tNum f p (tDig f lim p 2) 0)) := by rw [uA_s, upd_at, if_pos rfl]
            have hlo1 : ∀ j, j < 2 * s → (uA σ' 33 10 (upd (σ'.2.1 33 10) (2 * s) (nI (tNum f p (tDig f lim p 2) 0)))).2.1 33 10 j = σ.2.1 33 10 j := fun j hj => by rw [uA_s, upd_at, if_neg (by omega), hFd.2.2.1 10 (by decide)]
            generalize uA σ' 33 10 (upd (σ'.2.1 33 10) (2 * s) (nI (tNum f p (tDig f lim p 2) 0))) = τ1 at hF1 hK1 h201 hr1 hlo1 ⊢
            refine go_aload_n (i := 0) (pc := 34) dX12_readsSort_34 rfl rfl ?_
            refine go_getr2 fl_X12_45 (pc := 35) dX12_readsSort_35 (by rfl) (by rfl) (by rfl) ?_
            refine go_iload_n (i := 1) (pc := 38) dX12_readsSort_38 rfl rfl ?_
            refine go_iaload _ (pc := 39) dX12_readsSort_39 (by first | rfl | (apply zM_ar <;> assumption)) (by first | rfl | (apply zM_jn <;> assumption)) rfl (by first | assumption | omega) ?_
            rw [hr1]
            refine go_if_ne 55 (pc := 40) dX12_readsSort_40 (by decide) (fun h40 => ?_) (fun h40 => ?_)
            · refine go_aload_n (i := 0) (pc := 55) dX12_readsSort_55 rfl rfl ?_
              refine go_getr2 fl_X12_45 (pc := 56) dX12_readsSort_56 (by rfl) (by rfl) (by rfl) ?_
              refine go_iload_n (i := 1) (pc := 59) dX12_readsSort_59 rfl rfl ?_
              refine go_iaload _ (pc := 60) dX12_readsSort_60 (by first | rfl | (apply zM_ar <;> assumption)) (by first | rfl | (apply zM_jn <;> assumption)) rfl (by first | assumption | omega) ?_
              rw [hr1]
              refine go_if_lt 73 (pc := 61) dX12_readsSort_61 (by decide) (fun h61 => ?_) (fun h61 => ?_)
              · exact absurd h61 (nI_pos (by omega))
              · refine go_aload_n (i := 0) (pc := 64) dX12_readsSort_64 rfl rfl ?_
                refine go_bipush (nI 44) (pc := 65) dX12_readsSort_65 (by decide) ?_
                refine go_callV ml_X12_192 mt_X12_takes (pc := 67) dX12_readsSort_67 (c_X12_takes (v := 44) hK1 (by decide)) (by rfl) rfl (by rfl) (by decide) (by decide) rfl rfl (Nat.le_of_ble_eq_true rfl) (fun r σ' hp => ?_)
                obtain ⟨rfl, hK2, hFe⟩ := hp
                dsimp only [zRet]
                rw [if_pos hd2] at hK2
                have hF1b := hF1.tr (hFe.mono (by simp) (by simp))
                have h201b : σ'.1 33 20 = nI s := by rw [hFe.2.1 _ (by decide)]; exact h201
                have hr1d : σ'.2.1 33 10 (2 * s) = (nI (tNum f p (tDig f lim p 2) 0)) := (by rw [hFe.2.2.1 10 (by decide)]; exact hr1)
                have hlo1b : ∀ j, j < 2 * s → σ'.2.1 33 10 j = σ.2.1 33 10 j := fun j hj => by rw [hFe.2.2.1 10 (by decide)]; exact hlo1 j hj
                refine go_if_ne 75 (pc := 70) dX12_readsSort_70 (by decide) (fun h70 => ?_) (fun h70 => ?_)
                · refine go_aload_n (i := 0) (pc := 75) dX12_readsSort_75 rfl rfl ?_
                  refine go_getr2 fl_X12_45 (pc := 76) dX12_readsSort_76 (by rfl) (by rfl) (by rfl) ?_
                  refine go_iload_n (i := 1) (pc := 79) dX12_readsSort_79 rfl rfl ?_
                  refine go_iconst (nI 1) (pc := 80) dX12_readsSort_80 (by decide) ?_
                  first | with_reducible refine go_iaddN (pc := 81) dX12_readsSort_81 ?_ | refine go_iadd (pc := 81) dX12_readsSort_81 ?_
                  refine go_aload_n (i := 0) (pc := 82) dX12_readsSort_82 rfl rfl ?_
                  refine go_iconst (nI 2) (pc := 83) dX12_readsSort_83 (by decide) ?_
                  refine go_callV ml_X12_162 mt_X12_number (pc := 84) dX12_readsSort_84 (c_X12_number (D := 2) hK2 (by decide) (by decide)) (by rfl) rfl (by rfl) (by decide) (by decide) rfl rfl (Nat.le_of_ble_eq_true rfl) (fun r σ' hp => ?_)
                  obtain ⟨rfl, hK2, hFg⟩ := hp
                  dsimp only [zRet]
                  rw [if_neg hd3]
                  have hF1c := hF1b.tr (hFg.mono (by simp) (by simp))
                  have h201c : σ'.1 33 20 = nI s := by rw [hFg.2.1 _ (by decide)]; exact h201b
                  have hr1c : σ'.2.1 33 10 (2 * s) = (nI (tNum f p (tDig f lim p 2) 0)) := (by rw [hFg.2.2.1 10 (by decide)]; exact hr1d)
                  have hlo1c : ∀ j, j < 2 * s → σ'.2.1 33 10 j = σ.2.1 33 10 j := fun j hj => by rw [hFg.2.2.1 10 (by decide)]; exact hlo1b j hj
                  refine go_iastore (2 * s + 1) (pc := 87) dX12_readsSort_87 rfl rfl rfl (by omega) ?_
                  have hF2 : Fr9 [16, 20] [10] σ (uA σ' 33 10 (upd (σ'.2.1 33 10) (2 * s + 1) (nI (tNum f (p + tDig f lim p 2 + 1) (tDig f lim (p + tDig f lim p 2 + 1) 2) 0)))) := hF1c.uA (by simp)
                  have hK3 : Cur (uA σ' 33 10 (upd (σ'.2.1 33 10) (2 * s + 1) (nI (tNum f (p + tDig f lim p 2 + 1) (tDig f lim (p + tDig f lim p 2 + 1) 2) 0)))) f _ lim := hK2.fr (fs := []) (js := [10]) (Fr9.rf.uA (by simp)) (by decide) (by decide) (by decide)
                  have h203 : (uA σ' 33 10 (upd (σ'.2.1 33 10) (2 * s + 1) (nI (tNum f (p + tDig f lim p 2 + 1) (tDig f lim (p + tDig f lim p 2 + 1) 2) 0)))).1 33 20 = nI s := h201c
                  have hr2 : (uA σ' 33 10 (upd (σ'.2.1 33 10) (2 * s + 1) (nI (tNum f (p + tDig f lim p 2 + 1) (tDig f lim (p + tDig f lim p 2 + 1) 2) 0)))).2.1 33 10 (2 * s + 1) = (nI (tNum f (p + tDig f lim p 2 + 1) (tDig f lim (p + tDig f lim p 2 + 1) 2) 0)) := by rw [uA_s, upd_at, if_pos rfl]
                  have hr1b : (uA σ' 33 10 (upd (σ'.2.1 33 10) (2 * s + 1) (nI (tNum f (p + tDig f lim p 2 + 1) (tDig f lim (p + tDig f lim p 2 + 1) 2) 0)))).2.1 33 10 (2 * s) = (nI (tNum f p (tDig f lim p 2) 0)) := by rw [uA_s, upd_at, if_neg (by omega)]; exact hr1c
                  have hlo2 : ∀ j, j < 2 * s → (uA σ' 33 10 (upd (σ'.2.1 33 10) (2 * s + 1) (nI (tNum f (p + tDig f lim p 2 + 1) (tDig f lim (p + tDig f lim p 2 + 1) 2) 0)))).2.1 33 10 j = σ.2.1 33 10 j := fun j hj => by rw [uA_s, upd_at, if_neg (by omega)]; exact hlo1c j hj
                  generalize uA σ' 33 10 (upd (σ'.2.1 33 10) (2 * s + 1) (nI (tNum f (p + tDig f lim p 2 + 1) (tDig f lim (p + tDig f lim p 2 + 1) 2) 0))) = τ2 at hF2 hK3 h203 hr2 hr1b hlo2 ⊢
                  refine go_aload_n (i := 0) (pc := 88) dX12_readsSort_88 rfl rfl ?_
                  refine go_dup (pc := 89) dX12_readsSort_89 rfl ?_
                  refine go_geti fl_X12_169 (pc := 90) dX12_readsSort_90 (by rfl) ?_
                  rw [h203]
                  refine go_iconst (nI 1) (pc := 93) dX12_readsSort_93 (by decide) ?_
                  first | with_reducible refine go_iaddN (pc := 94) dX12_readsSort_94 ?_ | refine go_iadd (pc := 94) dX12_readsSort_94 ?_
                  refine go_puti fp_X12_169 (pc := 95) dX12_readsSort_95 (by rfl) rfl rfl ?_
                  refine go_aload_n (i := 0) (pc := 98) dX12_readsSort_98 rfl rfl ?_
                  refine go_getr2 fl_X12_45 (pc := 99) dX12_readsSort_99 (by rfl) (by rfl) (by rfl) ?_
                  refine go_iload_n (i := 1) (pc := 102) dX12_readsSort_102 rfl rfl ?_
                  refine go_iconst (nI 1) (pc := 103) dX12_readsSort_103 (by decide) ?_
                  first | with_reducible refine go_iaddN (pc := 104) dX12_readsSort_104 ?_ | refine go_iadd (pc := 104) dX12_readsSort_104 ?_
                  refine go_iaload _ (pc := 105) dX12_readsSort_105 (by first | rfl | (apply zM_ar <;> assumption)) (by first | rfl | (apply zM_jn <;> assumption)) rfl (by first | assumption | omega) ?_
                  rw [show (uS τ2 33 20 (nI (s + 1))).2.1 33 10 (2 * s + 1) = _ from hr2]
                  refine go_if_lt 113 (pc := 106) dX12_readsSort_106 (by decide) (fun h106 => ?_) (fun h106 => ?_)
                  · exact absurd h106 (nI_pos (by omega))
                  · refine go_iconst (nI 1) (pc := 109) dX12_readsSort_109 (by decide) ?_
                    refine go_goto 114 (pc := 110) dX12_readsSort_110 (by decide) ?_
                    refine go_zreturn (pc := 114) dX12_readsSort_114 rfl (by first | rfl | (apply zb_nar)) ?_
                    rw [ec]
                    exact ⟨rfl, hK3.fr (fs := [20]) (js := []) (Fr9.rf.uS (by simp)) (by decide) (by decide) (by decide), fun _ => ⟨uS_s _ _ _ _, hr1b, hr2⟩, hlo2, hF2.uS (by simp)⟩
                · rw [zb_0d] at h70
                  exact absurd hd2 h70
            · exact absurd h40 (by rw [zn_eq0 (by omega)]; exact hd1)
          · first | rw [nI_eq (by omega) (by omega)] at h11 | rw [zi_eqN (by omega)] at h11 | rw [zi_Neq (by omega)] at h11 | rw [zi_eq] at h11
            exfalso; omega
      · have ec : mLn f lim p = (false, p + (tDig f lim p 2), 0, 0) := by unfold mLn; rw [if_neg hd0, if_neg hd1, if_pos (show lim ≤ p + (tDig f lim p 2) ∨ f (p + (tDig f lim p 2)) ≠ 44 by omega)]
        refine go_aload_n (i := 0) (pc := 0) dX12_readsSort_0 rfl rfl ?_
        refine go_geti fl_X12_200 (pc := 1) dX12_readsSort_1 (by rfl) ?_
        rw [h4]
        refine go_aload_n (i := 0) (pc := 4) dX12_readsSort_4 rfl rfl ?_
        refine go_geti fl_X12_169 (pc := 5) dX12_readsSort_5 (by rfl) ?_
        rw [h20]
        first | with_reducible refine go_iaddN (pc := 8) dX12_readsSort_8 ?_ | refine go_iadd (pc := 8) dX12_readsSort_8 ?_
        refine go_bipush (nI 8) (pc := 9) dX12_readsSort_9 (by decide) ?_
        refine go_icmp_ne 16 (pc := 11) dX12_readsSort_11 (by decide) (fun h11 => ?_) (fun h11 => ?_)
        · first | rw [nI_eq (by omega) (by omega)] at h11 | rw [zi_eqN (by omega)] at h11 | rw [zi_Neq (by omega)] at h11 | rw [zi_eq] at h11
          refine go_iconst (nI 2) (pc := 16) dX12_readsSort_16 (by decide) ?_
          refine go_aload_n (i := 0) (pc := 17) dX12_readsSort_17 rfl rfl ?_
          refine go_geti fl_X12_169 (pc := 18) dX12_readsSort_18 (by rfl) ?_
          rw [h20]
          first | with_reducible refine go_imulN (pc := 21) dX12_readsSort_21 ?_ | refine go_imul (pc := 21) dX12_readsSort_21 ?_
          refine go_istore_n (i := 1) (pc := 22) dX12_readsSort_22 rfl (by decide) ?_
          refine go_aload_n (i := 0) (pc := 23) dX12_readsSort_23 rfl rfl ?_
          refine go_getr2 fl_X12_45 (pc := 24) dX12_readsSort_24 (by rfl) (by rfl) (by rfl) ?_
          refine go_iload_n (i := 1) (pc := 27) dX12_readsSort_27 rfl rfl ?_
          refine go_aload_n (i := 0) (pc := 28) dX12_readsSort_28 rfl rfl ?_
          refine go_iconst (nI 2) (pc := 29) dX12_readsSort_29 (by decide) ?_
          refine go_callV ml_X12_162 mt_X12_number (pc := 30) dX12_readsSort_30 (c_X12_number (D := 2) hK (by decide) (by decide)) (by rfl) rfl (by rfl) (by decide) (by decide) rfl rfl (Nat.le_of_ble_eq_true rfl) (fun r σ' hp => ?_)
          obtain ⟨rfl, hK2, hFd⟩ := hp
          dsimp only [zRet]
          rw [if_neg hd0]
          refine go_iastore (2 * s) (pc := 33) dX12_readsSort_33 rfl rfl rfl (by omega) ?_
          have hF1 : Fr9 [16, 20] [10] σ (uA σ' 33 10 (upd (σ'.2.1 33 10) (2 * s) (nI (tNum f p (tDig f lim p 2) 0)))) := (hFd.mono (by simp) (by simp)).uA (by simp)
          have hK1 : Cur (uA σ' 33 10 (upd (σ'.2.1 33 10) (2 * s) (nI (tNum f p (tDig f lim p 2) 0)))) f _ lim := hK2.fr (fs := []) (js := [10]) (Fr9.rf.uA (by simp)) (by decide) (by decide) (by decide)
          have h201 : (uA σ' 33 10 (upd (σ'.2.1 33 10) (2 * s) (nI (tNum f p (tDig f lim p 2) 0)))).1 33 20 = nI s := by rw [uA_1, hFd.2.1 _ (by decide)]; exact h20
          have hr1 : (uA σ' 33 10 (upd (σ'.2.1 33 10) (2 * s) (nI (tNum f p (tDig f lim p 2) 0)))).2.1 33 10 (2 * s) = (nI (tNum f p (tDig f lim p 2) 0)) := by rw [uA_s, upd_at, if_pos rfl]
          have hlo1 : ∀ j, j < 2 * s → (uA σ' 33 10 (upd (σ'.2.1 33 10) (2 * s) (nI (tNum f p (tDig f lim p 2) 0)))).2.1 33 10 j = σ.2.1 33 10 j := fun j hj => by rw [uA_s, upd_at, if_neg (by omega), hFd.2.2.1 10 (by decide)]
          generalize uA σ' 33 10 (upd (σ'.2.1 33 10) (2 * s) (nI (tNum f p (tDig f lim p 2) 0))) = τ1 at hF1 hK1 h201 hr1 hlo1 ⊢
          refine go_aload_n (i := 0) (pc := 34) dX12_readsSort_34 rfl rfl ?_
          refine go_getr2 fl_X12_45 (pc := 35) dX12_readsSort_35 (by rfl) (by rfl) (by rfl) ?_
          refine go_iload_n (i := 1) (pc := 38) dX12_readsSort_38 rfl rfl ?_
          refine go_iaload _ (pc := 39) dX12_readsSort_39 (by first | rfl | (apply zM_ar <;> assumption)) (by first | rfl | (apply zM_jn <;> assumption)) rfl (by first | assumption | omega) ?_
          rw [hr1]
          refine go_if_ne 55 (pc := 40) dX12_readsSort_40 (by decide) (fun h40 => ?_) (fun h40 => ?_)
          · refine go_aload_n (i := 0) (pc := 55) dX12_readsSort_55 rfl rfl ?_
            refine go_getr2 fl_X12_45 (pc := 56) dX12_readsSort_56 (by rfl) (by rfl) (by rfl) ?_
            refine go_iload_n (i := 1) (pc := 59) dX12_readsSort_59 rfl rfl ?_
            refine go_iaload _ (pc := 60) dX12_readsSort_60 (by first | rfl | (apply zM_ar <;> assumption)) (by first | rfl | (apply zM_jn <;> assumption)) rfl (by first | assumption | omega) ?_
            rw [hr1]
            refine go_if_lt 73 (pc := 61) dX12_readsSort_61 (by decide) (fun h61 => ?_) (fun h61 => ?_)
            · exact absurd h61 (nI_pos (by omega))
            · refine go_aload_n (i := 0) (pc := 64) dX12_readsSort_64 rfl rfl ?_
              refine go_bipush (nI 44) (pc := 65) dX12_readsSort_65 (by decide) ?_
              refine go_callV ml_X12_192 mt_X12_takes (pc := 67) dX12_readsSort_67 (c_X12_takes (v := 44) hK1 (by decide)) (by rfl) rfl (by rfl) (by decide) (by decide) rfl rfl (Nat.le_of_ble_eq_true rfl) (fun r σ' hp => ?_)
              obtain ⟨rfl, hK2, hFe⟩ := hp
              dsimp only [zRet]
              rw [if_neg hd2] at hK2
              have hF1b := hF1.tr (hFe.mono (by simp) (by simp))
              have h201b : σ'.1 33 20 = nI s := by rw [hFe.2.1 _ (by decide)]; exact h201
              have hr1d : σ'.2.1 33 10 (2 * s) = (nI (tNum f p (tDig f lim p 2) 0)) := (by rw [hFe.2.2.1 10 (by decide)]; exact hr1)
              have hlo1b : ∀ j, j < 2 * s → σ'.2.1 33 10 j = σ.2.1 33 10 j := fun j hj => by rw [hFe.2.2.1 10 (by decide)]; exact hlo1 j hj
              refine go_if_ne 75 (pc := 70) dX12_readsSort_70 (by decide) (fun h70 => ?_) (fun h70 => ?_)
              · rw [zb_0d] at h70
                exact absurd h70 (fun q => q hd2)
              · refine go_iconst (nI 0) (pc := 73) dX12_readsSort_73 (by decide) ?_
                refine go_zreturn (pc := 74) dX12_readsSort_74 rfl rfl ?_
                rw [ec]
                exact ⟨rfl, hK2, fun h => (by cases h), hlo1b, hF1b⟩
          · exact absurd h40 (by rw [zn_eq0 (by omega)]; exact hd1)
        · first | rw [nI_eq (by omega) (by omega)] at h11 | rw [zi_eqN (by omega)] at h11 | rw [zi_Neq (by omega)] at h11 | rw [zi_eq] at h11
          exfalso; omega

theorem gPos_mou {f : Nat → Nat} {lim : Nat} : ∀ j, gPos (mLn f lim) j = mPos f lim j
  | 0 => rfl
  | j + 1 => by rw [gPos, mPos, gPos_mou j]
/-- all items ahead of the count were read -/
theorem cLn_v {f : Nat → Nat} {lim p : Nat} (h : (cLn f lim p).1 = true) : (cLn f lim p).2.2.1 = f p - 48 ∧ (cLn f lim p).2.2.2 = f (p + 1) - 48 ∧ (cLn f lim p).2.2.1 ≤ 4 ∧ 1 ≤ (cLn f lim p).2.2.2 ∧ (cLn f lim p).2.2.2 ≤ 9 := by
  unfold cLn at h ⊢
  split at h
  · cases h
  · split at h
    · cases h
    · rename_i h1 h2
      rw [if_neg h1, if_neg h2]
      refine ⟨rfl, rfl, ?_, ?_, ?_⟩
      all_goals (dsimp only; omega)

