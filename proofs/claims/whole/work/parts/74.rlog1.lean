/-! log: acts as the reference reads them -/
theorem am_6 : ∀ v, v < 256 → am 6 v = if v = 119 then some 0 else if v = 109 then some 1 else if v = 112 then some 2 else if v = 103 then some 3 else if v = 99 then some 4 else if v = 100 then some 5 else none := by decide +kernel
theorem am_7 : ∀ v, v < 256 → am 7 v = if 97 ≤ v ∧ v ≤ 108 then some (v - 97) else none := by decide +kernel
def aSg (v : Nat) : Nat := if v = 119 then 0 else if v = 109 then 1 else if v = 112 then 2 else if v = 103 then 3 else if v = 99 then 4 else 5
def aV1 (f : Nat → Nat) (p : Nat) : Nat := if f p = 119 then f (p + 1) - 48 else if f p = 109 ∨ f p = 112 ∨ f p = 103 then f (p + 1) - 97 else 10 * (f (p + 1) - 48) + (f (p + 2) - 48)
def ActIs (σ : zT) (f : Nat → Nat) (k p : Nat) : Prop := σ.2.1 33 17 k = nI (aSg (f p)) ∧ σ.2.1 33 18 k = nI (aV1 f p) ∧ (f p = 109 ∨ f p = 112 → σ.2.1 33 19 k = nI (f (p + 2) - 48))
theorem c_num1 {E : zE} {σ : zT} {f : Nat → Nat} {a lim : Nat} (hK : Cur σ f a lim) : CalM E 2 yX12_number cX12_number 4 (some .int) [.ref (zA E 33 0), .int (nI 1)] σ (fun r σ' => r = some (.int (if a < lim ∧ 48 ≤ f a ∧ f a ≤ 57 then nI (f a - 48) else -1)) ∧ Cur σ' f (if a < lim ∧ 48 ≤ f a ∧ f a ≤ 57 then a + 1 else a) lim ∧ Fr9 [16] [] σ σ') :=
  cal_weak (c_X12_number (D := 1) hK (by decide) (by decide)) (fun r σ' h => by
    rw [show tDig f lim a 1 = if a < lim ∧ 48 ≤ f a ∧ f a ≤ 57 then 1 else 0 from rfl] at h
    by_cases hd : a < lim ∧ 48 ≤ f a ∧ f a ≤ 57
    · rw [if_pos hd, if_neg (by decide), tNum_1] at h
      rw [if_pos hd, if_pos hd]
      exact h
    · rw [if_neg hd, if_pos rfl] at h
      rw [if_neg hd, if_neg hd]
      exact h)
theorem tDig_1 {f : Nat → Nat} {lim a : Nat} : tDig f lim a 1 = if a < lim ∧ 48 ≤ f a ∧ f a ≤ 57 then 1 else 0 := by
  rw [tDig]
  rfl

theorem c_X12_twoDigits {E : zE} {σ : zT} {f : Nat → Nat} {a lim : Nat} (hK : Cur σ f a lim) : CalM E 3 yX12_twoDigits cX12_twoDigits 3 (some .int) [.ref (zA E 33 0)] σ (fun r σ' => r = some (.int (if a < lim ∧ 48 ≤ f a ∧ f a ≤ 57 then (if a + 1 < lim ∧ 48 ≤ f (a + 1) ∧ f (a + 1) ≤ 57 then nI (10 * (f a - 48) + (f (a + 1) - 48)) else -1) else -1)) ∧ Cur σ' f (if a < lim ∧ 48 ≤ f a ∧ f a ≤ 57 then (if a + 1 < lim ∧ 48 ≤ f (a + 1) ∧ f (a + 1) ≤ 57 then a + 2 else a + 1) else a) lim ∧ Fr9 [16] [] σ σ') := by
  refine cal_of_go (own := RX12) rfl (by decide +kernel) (Nat.le_of_ble_eq_true rfl) ?_
  have hfb := fun i (h : i < 80) => (hK.2.2.2.2 i h).2
  have hl80 := hK.2.2.2.1
  by_cases h1 : a < lim ∧ 48 ≤ f a ∧ f a ≤ 57
  · by_cases h2 : a + 1 < lim ∧ 48 ≤ f (a + 1) ∧ f (a + 1) ≤ 57
    · skip
      refine go_aload_n (i := 0) (pc := 0) dX12_twoDigits_0 rfl rfl ?_
      refine go_iconst (nI 1) (pc := 1) dX12_twoDigits_1 (by decide) ?_
      refine go_callV ml_X12_162 mt_X12_number (pc := 2) dX12_twoDigits_2 (c_num1 hK) (by rfl) rfl (by rfl) (by decide) (by decide) rfl rfl (Nat.le_of_ble_eq_true rfl) (fun r σ' hp => ?_)
      obtain ⟨rfl, hK2, hFd⟩ := hp
      dsimp only [zRet]
      rw [if_pos h1] at hK2
      refine go_top (congrArg Value.int (if_pos h1)) ?_
      refine go_istore_n (i := 1) (pc := 5) dX12_twoDigits_5 rfl (by decide) ?_
      refine go_iload_n (i := 1) (pc := 6) dX12_twoDigits_6 rfl rfl ?_
      refine go_if_ge 14 (pc := 7) dX12_twoDigits_7 (by decide) (fun h7 => ?_) (fun h7 => ?_)
      · refine go_aload_n (i := 0) (pc := 14) dX12_twoDigits_14 rfl rfl ?_
        refine go_iconst (nI 1) (pc := 15) dX12_twoDigits_15 (by decide) ?_
        refine go_callV ml_X12_162 mt_X12_number (pc := 16) dX12_twoDigits_16 (c_num1 hK2) (by rfl) rfl (by rfl) (by decide) (by decide) rfl rfl (Nat.le_of_ble_eq_true rfl) (fun r σ' hp => ?_)
        obtain ⟨rfl, hK3, hFe⟩ := hp
        dsimp only [zRet]
        rw [if_pos h2] at hK3
        refine go_top (congrArg Value.int (if_pos h2)) ?_
        refine go_istore_n (i := 2) (pc := 19) dX12_twoDigits_19 rfl (by decide) ?_
        refine go_iload_n (i := 2) (pc := 20) dX12_twoDigits_20 rfl rfl ?_
        refine go_if_ge 28 (pc := 21) dX12_twoDigits_21 (by decide) (fun h21 => ?_) (fun h21 => ?_)
        · refine go_bipush (nI 10) (pc := 28) dX12_twoDigits_28 (by decide) ?_
          refine go_iload_n (i := 1) (pc := 30) dX12_twoDigits_30 rfl rfl ?_
          first | with_reducible refine go_imulN (pc := 31) dX12_twoDigits_31 ?_ | refine go_imul (pc := 31) dX12_twoDigits_31 ?_
          refine go_iload_n (i := 2) (pc := 32) dX12_twoDigits_32 rfl rfl ?_
          first | with_reducible refine go_iaddN (pc := 33) dX12_twoDigits_33 ?_ | refine go_iadd (pc := 33) dX12_twoDigits_33 ?_
          refine go_ireturn (pc := 34) dX12_twoDigits_34 rfl ?_
          rw [if_pos h1, if_pos h1, if_pos h2, if_pos h2]
          exact ⟨rfl, hK3, hFd.tr hFe⟩
        · exact absurd (nI_pos' (by omega)) h21
      · exact absurd (nI_pos' (by omega)) h7
    · skip
      refine go_aload_n (i := 0) (pc := 0) dX12_twoDigits_0 rfl rfl ?_
      refine go_iconst (nI 1) (pc := 1) dX12_twoDigits_1 (by decide) ?_
      refine go_callV ml_X12_162 mt_X12_number (pc := 2) dX12_twoDigits_2 (c_num1 hK) (by rfl) rfl (by rfl) (by decide) (by decide) rfl rfl (Nat.le_of_ble_eq_true rfl) (fun r σ' hp => ?_)
      obtain ⟨rfl, hK2, hFd⟩ := hp
      dsimp only [zRet]
      rw [if_pos h1] at hK2
      refine go_top (congrArg Value.int (if_pos h1)) ?_
      refine go_istore_n (i := 1) (pc := 5) dX12_twoDigits_5 rfl (by decide) ?_
      refine go_iload_n (i := 1) (pc := 6) dX12_twoDigits_6 rfl rfl ?_
      refine go_if_ge 14 (pc := 7) dX12_twoDigits_7 (by decide) (fun h7 => ?_) (fun h7 => ?_)
      · refine go_aload_n (i := 0) (pc := 14) dX12_twoDigits_14 rfl rfl ?_
        refine go_iconst (nI 1) (pc := 15) dX12_twoDigits_15 (by decide) ?_
        refine go_callV ml_X12_162 mt_X12_number (pc := 16) dX12_twoDigits_16 (c_num1 hK2) (by rfl) rfl (by rfl) (by decide) (by decide) rfl rfl (Nat.le_of_ble_eq_true rfl) (fun r σ' hp => ?_)
        obtain ⟨rfl, hK3, hFe⟩ := hp
        dsimp only [zRet]
        rw [if_neg h2] at hK3
        refine go_top (congrArg Value.int (if_neg h2)) ?_
        refine go_istore_n (i := 2) (pc := 19) dX12_twoDigits_19 rfl (by decide) ?_
        refine go_iload_n (i := 2) (pc := 20) dX12_twoDigits_20 rfl rfl ?_
        refine go_if_ge 28 (pc := 21) dX12_twoDigits_21 (by decide) (fun h21 => ?_) (fun h21 => ?_)
        · exact absurd h21 (by decide)
        · refine go_iconst (-1) (pc := 24) dX12_twoDigits_24 (by decide) ?_
          refine go_goto 34 (pc := 25) dX12_twoDigits_25 (by decide) ?_
          refine go_ireturn (pc := 34) dX12_twoDigits_34 rfl ?_
          rw [if_pos h1, if_pos h1, if_neg h2, if_neg h2]
          exact ⟨rfl, hK3, hFd.tr hFe⟩
      · exact absurd (nI_pos' (by omega)) h7
  · skip
    refine go_aload_n (i := 0) (pc := 0) dX12_twoDigits_0 rfl rfl ?_
    refine go_iconst (nI 1) (pc := 1) dX12_twoDigits_1 (by decide) ?_
    refine go_callV ml_X12_162 mt_X12_number (pc := 2) dX12_twoDigits_2 (c_num1 hK) (by rfl) rfl (by rfl) (by decide) (by decide) rfl rfl (Nat.le_of_ble_eq_true rfl) (fun r σ' hp => ?_)
    obtain ⟨rfl, hK2, hFd⟩ := hp
    dsimp only [zRet]
    rw [if_neg h1] at hK2
    refine go_top (congrArg Value.int (if_neg h1)) ?_
    refine go_istore_n (i := 1) (pc := 5) dX12_twoDigits_5 rfl (by decide) ?_
    refine go_iload_n (i := 1) (pc := 6) dX12_twoDigits_6 rfl rfl ?_
    refine go_if_ge 14 (pc := 7) dX12_twoDigits_7 (by decide) (fun h7 => ?_) (fun h7 => ?_)
    · exact absurd h7 (by decide)
    · refine go_iconst (-1) (pc := 10) dX12_twoDigits_10 (by decide) ?_
      refine go_goto 19 (pc := 11) dX12_twoDigits_11 (by decide) ?_
      refine go_istore_n (i := 2) (pc := 19) dX12_twoDigits_19 rfl (by decide) ?_
      refine go_iload_n (i := 2) (pc := 20) dX12_twoDigits_20 rfl rfl ?_
      refine go_if_ge 28 (pc := 21) dX12_twoDigits_21 (by decide) (fun h21 => ?_) (fun h21 => ?_)
      · exact absurd h21 (by decide)
      · refine go_iconst (-1) (pc := 24) dX12_twoDigits_24 (by decide) ?_
        refine go_goto 34 (pc := 25) dX12_twoDigits_25 (by decide) ?_
        refine go_ireturn (pc := 34) dX12_twoDigits_34 rfl ?_
        rw [if_neg h1, if_neg h1]
        exact ⟨rfl, hK2, hFd⟩

theorem c_readsAct0 {E : zE} {σ : zT} {f : Nat → Nat} {p lim k : Nat} (hK : Cur σ f p lim) (hp : p < lim) (h35 : σ.1 33 35 = nI k) (hk : k < 60) (hfp : f p = 119) : CalM E 6 yX12_readsAct cX12_readsAct 2 (some .boolean) [.ref (zA E 33 0)] σ (fun r σ' => r = some (.int (zb (aOne f lim p).1)) ∧ Cur σ' f (aOne f lim p).2 lim ∧ ((aOne f lim p).1 = true → σ'.1 33 35 = nI (k + 1) ∧ ActIs σ' f k p) ∧ (∀ j, j < k → σ'.2.1 33 17 j = σ.2.1 33 17 j ∧ σ'.2.1 33 18 j = σ.2.1 33 18 j ∧ σ'.2.1 33 19 j = σ.2.1 33 19 j) ∧ Fr9 [16, 35] [17, 18, 19] σ σ') := by
  refine cal_of_go (own := RX12) rfl (by decide +kernel) (Nat.le_of_ble_eq_true rfl) ?_
  have hfb := fun i (h : i < 80) => (hK.2.2.2.2 i h).2
  have hl80 := hK.2.2.2.1
  have hfp0 := hfb p (by omega)
  have L00 : ∀ j, j < k → σ.2.1 33 17 j = σ.2.1 33 17 j ∧ σ.2.1 33 18 j = σ.2.1 33 18 j ∧ σ.2.1 33 19 j = σ.2.1 33 19 j := fun _ _ => ⟨rfl, rfl, rfl⟩
  have hsg : amA 6 f p lim = some 0 := by rw [amA_in hp, am_6 _ hfp0, hfp]; rfl
  have hal : aLen (f p) = 2 := by rw [hfp]; rfl
  by_cases h1 : p + 1 < lim ∧ 48 ≤ f (p + 1) ∧ f (p + 1) ≤ 57
  · have hf1 := hfb (p + 1) (by omega)
    have ec : aOne f lim p = (true, p + 2) := by
      unfold aOne
      rw [if_neg (by rw [hal]; decide)]
      rw [if_neg (by omega)]
      rw [if_neg (show ¬ fAct (f p) 1 (f (p + 1)) = false by unfold fAct; rw [if_neg (by omega)]; rw [decide_eq_true (by omega)]; decide)]
      rw [if_pos (by rw [hal])]
    refine go_aload_n (i := 0) (pc := 0) dX12_readsAct_0 rfl rfl ?_
    refine go_geti fl_X12_340 (pc := 1) dX12_readsAct_1 (by rfl) ?_
    rw [h35]
    refine go_istore_n (i := 1) (pc := 4) dX12_readsAct_4 rfl (by decide) ?_
    refine go_aload_n (i := 0) (pc := 5) dX12_readsAct_5 rfl rfl ?_
    refine go_getr2 fl_X12_66 (pc := 6) dX12_readsAct_6 (by rfl) (by rfl) (by rfl) ?_
    refine go_iload_n (i := 1) (pc := 9) dX12_readsAct_9 rfl rfl ?_
    refine go_aload_n (i := 0) (pc := 10) dX12_readsAct_10 rfl rfl ?_
    refine go_ldcwS 6 rfl rfl (pc := 11) dX12_readsAct_11 ?_
    refine go_callV ml_X12_172 mt_X12_takesOf (pc := 14) dX12_readsAct_14 (c_X12_takesOf (ti := 6) hK (by decide)) (by rfl) rfl (by rfl) (by decide) (by decide) rfl rfl (Nat.le_of_ble_eq_true rfl) (fun r σ' hp2 => ?_)
    obtain ⟨rfl, Ka, hFd⟩ := hp2
    dsimp only [zRet]
    rw [hsg] at Ka ⊢
    dsimp only [gM] at Ka ⊢
    have Ft1 := Fr9.rf.tr (hFd.mono (fs2 := [16, 35]) (js2 := [17, 18, 19]) (by simp) (by simp))
    have At1 : σ'.1 33 35 = (nI k) := by rw [hFd.2.1 _ (by decide)]; exact h35
    have Lt1 : ∀ j, j < k → σ'.2.1 33 17 j = σ.2.1 33 17 j ∧ σ'.2.1 33 18 j = σ.2.1 33 18 j ∧ σ'.2.1 33 19 j = σ.2.1 33 19 j := fun j hj => by rw [hFd.2.2.1 17 (by decide), hFd.2.2.1 18 (by decide), hFd.2.2.1 19 (by decide)]; exact L00 j hj
    generalize σ' = t1 at Ft1 At1 Lt1 Ka ⊢
    refine go_iastore k (pc := 17) dX12_readsAct_17 rfl rfl rfl (by omega) ?_
    have Ft2 : Fr9 [16, 35] [17, 18, 19] σ (uA t1 33 17 (upd (t1.2.1 33 17) k (nI 0))) := Ft1.uA (by simp)
    have Kt2 : Cur (uA t1 33 17 (upd (t1.2.1 33 17) k (nI 0))) f _ lim := Ka.fr (fs := []) (js := [17]) (Fr9.rf.uA (by simp)) (by decide) (by decide) (by decide)
    have At2 : (uA t1 33 17 (upd (t1.2.1 33 17) k (nI 0))).1 33 35 = (nI k) := At1
    have Lt2 : ∀ j, j < k → (uA t1 33 17 (upd (t1.2.1 33 17) k (nI 0))).2.1 33 17 j = σ.2.1 33 17 j ∧ (uA t1 33 17 (upd (t1.2.1 33 17) k (nI 0))).2.1 33 18 j = σ.2.1 33 18 j ∧ (uA t1 33 17 (upd (t1.2.1 33 17) k (nI 0))).2.1 33 19 j = σ.2.1 33 19 j := fun j hj => by
      have h := Lt1 j hj
      refine ⟨?_, ?_, ?_⟩
      · rw [uA_2]; first | (rw [if_neg (by decide)]; exact h.1) | (rw [if_pos (by decide), upd_at, if_neg (by omega)]; exact h.1)
      · rw [uA_2]; first | (rw [if_neg (by decide)]; exact h.2.1) | (rw [if_pos (by decide), upd_at, if_neg (by omega)]; exact h.2.1)
      · rw [uA_2]; first | (rw [if_neg (by decide)]; exact h.2.2) | (rw [if_pos (by decide), upd_at, if_neg (by omega)]; exact h.2.2)
    have R17t2 : (uA t1 33 17 (upd (t1.2.1 33 17) k (nI 0))).2.1 33 17 k = (nI 0) := by rw [uA_s, upd_at, if_pos rfl]
    generalize (uA t1 33 17 (upd (t1.2.1 33 17) k (nI 0))) = t2 at Ft2 Kt2 At2 Lt2 R17t2 ⊢
    refine go_aload_n (i := 0) (pc := 18) dX12_readsAct_18 rfl rfl ?_
    refine go_dup (pc := 19) dX12_readsAct_19 rfl ?_
    refine go_geti fl_X12_340 (pc := 20) dX12_readsAct_20 (by rfl) ?_
    rw [At2]
    refine go_iconst (nI 1) (pc := 23) dX12_readsAct_23 (by decide) ?_
    first | with_reducible refine go_iaddN (pc := 24) dX12_readsAct_24 ?_ | refine go_iadd (pc := 24) dX12_readsAct_24 ?_
    refine go_puti fp_X12_340 (pc := 25) dX12_readsAct_25 (by rfl) rfl rfl ?_
    have Ft3 : Fr9 [16, 35] [17, 18, 19] σ (uS t2 33 35 (nI (k + 1))) := Ft2.uS (by simp)
    have Kt3 : Cur (uS t2 33 35 (nI (k + 1))) f _ lim := Kt2.fr (fs := [35]) (js := []) (Fr9.rf.uS (by simp)) (by decide) (by decide) (by decide)
    have At3 : (uS t2 33 35 (nI (k + 1))).1 33 35 = (nI (k + 1)) := uS_s _ _ _ _
    have Lt3 : ∀ j, j < k → (uS t2 33 35 (nI (k + 1))).2.1 33 17 j = σ.2.1 33 17 j ∧ (uS t2 33 35 (nI (k + 1))).2.1 33 18 j = σ.2.1 33 18 j ∧ (uS t2 33 35 (nI (k + 1))).2.1 33 19 j = σ.2.1 33 19 j := Lt2
    have R17t3 : (uS t2 33 35 (nI (k + 1))).2.1 33 17 k = (nI 0) := R17t2
    generalize (uS t2 33 35 (nI (k + 1))) = t3 at Ft3 Kt3 At3 Lt3 R17t3 ⊢
    refine go_aload_n (i := 0) (pc := 28) dX12_readsAct_28 rfl rfl ?_
    refine go_getr2 fl_X12_66 (pc := 29) dX12_readsAct_29 (by rfl) (by rfl) (by rfl) ?_
    refine go_iload_n (i := 1) (pc := 32) dX12_readsAct_32 rfl rfl ?_
    refine go_iaload _ (pc := 33) dX12_readsAct_33 (by first | rfl | (apply zM_ar <;> assumption)) (by first | rfl | (apply zM_jn <;> assumption)) rfl (by first | assumption | omega) ?_
    rw [R17t3]
    refine go_tableIn 72 (off := 38) (pc := 34) dX12_readsAct_34 (by decide) (by decide) (by decide) (by decide) ?_
    refine go_aload_n (i := 0) (pc := 72) dX12_readsAct_72 rfl rfl ?_
    refine go_getr2 fl_X12_69 (pc := 73) dX12_readsAct_73 (by rfl) (by rfl) (by rfl) ?_
    refine go_iload_n (i := 1) (pc := 76) dX12_readsAct_76 rfl rfl ?_
    refine go_aload_n (i := 0) (pc := 77) dX12_readsAct_77 rfl rfl ?_
    refine go_iconst (nI 1) (pc := 78) dX12_readsAct_78 (by decide) ?_
    refine go_callV ml_X12_162 mt_X12_number (pc := 79) dX12_readsAct_79 (c_num1 Kt3) (by rfl) rfl (by rfl) (by decide) (by decide) rfl rfl (Nat.le_of_ble_eq_true rfl) (fun r σ' hp2 => ?_)
    obtain ⟨rfl, Kb, hFe⟩ := hp2
    dsimp only [zRet]
    rw [if_pos h1] at Kb
    refine go_top (congrArg Value.int (if_pos h1)) ?_
    have Ft4 := Ft3.tr (hFe.mono (fs2 := [16, 35]) (js2 := [17, 18, 19]) (by simp) (by simp))
    have At4 : σ'.1 33 35 = (nI (k + 1)) := by rw [hFe.2.1 _ (by decide)]; exact At3
    have Lt4 : ∀ j, j < k → σ'.2.1 33 17 j = σ.2.1 33 17 j ∧ σ'.2.1 33 18 j = σ.2.1 33 18 j ∧ σ'.2.1 33 19 j = σ.2.1 33 19 j := fun j hj => by rw [hFe.2.2.1 17 (by decide), hFe.2.2.1 18 (by decide), hFe.2.2.1 19 (by decide)]; exact Lt3 j hj
    have R17t4 : σ'.2.1 33 17 k = (nI 0) := by rw [hFe.2.2.1 17 (by decide)]; exact R17t3
    generalize σ' = t4 at Ft4 At4 Lt4 Kb R17t4 ⊢
    refine go_iastore k (pc := 82) dX12_readsAct_82 rfl rfl rfl (by omega) ?_
    have Ft5 : Fr9 [16, 35] [17, 18, 19] σ (uA t4 33 18 (upd (t4.2.1 33 18) k (nI (f (p + 1) - 48)))) := Ft4.uA (by simp)
    have Kt5 : Cur (uA t4 33 18 (upd (t4.2.1 33 18) k (nI (f (p + 1) - 48)))) f _ lim := Kb.fr (fs := []) (js := [18]) (Fr9.rf.uA (by simp)) (by decide) (by decide) (by decide)
    have At5 : (uA t4 33 18 (upd (t4.2.1 33 18) k (nI (f (p + 1) - 48)))).1 33 35 = (nI (k + 1)) := At4
    have Lt5 : ∀ j, j < k → (uA t4 33 18 (upd (t4.2.1 33 18) k (nI (f (p + 1) - 48)))).2.1 33 17 j = σ.2.1 33 17 j ∧ (uA t4 33 18 (upd (t4.2.1 33 18) k (nI (f (p + 1) - 48)))).2.1 33 18 j = σ.2.1 33 18 j ∧ (uA t4 33 18 (upd (t4.2.1 33 18) k (nI (f (p + 1) - 48)))).2.1 33 19 j = σ.2.1 33 19 j := fun j hj => by
      have h := Lt4 j hj
      refine ⟨?_, ?_, ?_⟩
      · rw [uA_2]; first | (rw [if_neg (by decide)]; exact h.1) | (rw [if_pos (by decide), upd_at, if_neg (by omega)]; exact h.1)
      · rw [uA_2]; first | (rw [if_neg (by decide)]; exact h.2.1) | (rw [if_pos (by decide), upd_at, if_neg (by omega)]; exact h.2.1)
      · rw [uA_2]; first | (rw [if_neg (by decide)]; exact h.2.2) | (rw [if_pos (by decide), upd_at, if_neg (by omega)]; exact h.2.2)
    have R17t5 : (uA t4 33 18 (upd (t4.2.1 33 18) k (nI (f (p + 1) - 48)))).2.1 33 17 k = (nI 0) := by rw [uA_2, if_neg (by decide)]; exact R17t4
    have R18t5 : (uA t4 33 18 (upd (t4.2.1 33 18) k (nI (f (p + 1) - 48)))).2.1 33 18 k = (nI (f (p + 1) - 48)) := by rw [uA_s, upd_at, if_pos rfl]
    generalize (uA t4 33 18 (upd (t4.2.1 33 18) k (nI (f (p + 1) - 48)))) = t5 at Ft5 Kt5 At5 Lt5 R17t5 R18t5 ⊢
    refine go_aload_n (i := 0) (pc := 83) dX12_readsAct_83 rfl rfl ?_
    refine go_getr2 fl_X12_69 (pc := 84) dX12_readsAct_84 (by rfl) (by rfl) (by rfl) ?_
    refine go_iload_n (i := 1) (pc := 87) dX12_readsAct_87 rfl rfl ?_
    refine go_iaload _ (pc := 88) dX12_readsAct_88 (by first | rfl | (apply zM_ar <;> assumption)) (by first | rfl | (apply zM_jn <;> assumption)) rfl (by first | assumption | omega) ?_
    rw [R18t5]
    refine go_if_lt 96 (pc := 89) dX12_readsAct_89 (by decide) (fun h89 => ?_) (fun h89 => ?_)
    · exact absurd h89 (nI_pos (by omega))
    · refine go_iconst (nI 1) (pc := 92) dX12_readsAct_92 (by decide) ?_
      refine go_goto 97 (pc := 93) dX12_readsAct_93 (by decide) ?_
      refine go_zreturn (pc := 97) dX12_readsAct_97 rfl rfl ?_
      rw [ec]
      exact ⟨rfl, Kt5, fun _ => ⟨At5, by rw [R17t5, hfp]; rfl, by rw [R18t5]; unfold aV1; rw [hfp]; rfl, fun h => by omega⟩, Lt5, Ft5⟩
  · skip
    have ec : aOne f lim p = (false, p + 1) := by
      unfold aOne
      rw [if_neg (by rw [hal]; decide)]
      by_cases hl : lim ≤ p + 1
      · rw [if_pos hl, show lim = p + 1 by omega]
      · rw [if_neg hl, if_pos (show fAct (f p) 1 (f (p + 1)) = false by unfold fAct; rw [if_neg (by omega)]; exact decide_eq_false (by omega))]
    refine go_aload_n (i := 0) (pc := 0) dX12_readsAct_0 rfl rfl ?_
    refine go_geti fl_X12_340 (pc := 1) dX12_readsAct_1 (by rfl) ?_
    rw [h35]
    refine go_istore_n (i := 1) (pc := 4) dX12_readsAct_4 rfl (by decide) ?_
    refine go_aload_n (i := 0) (pc := 5) dX12_readsAct_5 rfl rfl ?_
    refine go_getr2 fl_X12_66 (pc := 6) dX12_readsAct_6 (by rfl) (by rfl) (by rfl) ?_
    refine go_iload_n (i := 1) (pc := 9) dX12_readsAct_9 rfl rfl ?_
    refine go_aload_n (i := 0) (pc := 10) dX12_readsAct_10 rfl rfl ?_
    refine go_ldcwS 6 rfl rfl (pc := 11) dX12_readsAct_11 ?_
    refine go_callV ml_X12_172 mt_X12_takesOf (pc := 14) dX12_readsAct_14 (c_X12_takesOf (ti := 6) hK (by decide)) (by rfl) rfl (by rfl) (by decide) (by decide) rfl rfl (Nat.le_of_ble_eq_true rfl) (fun r σ' hp2 => ?_)
    obtain ⟨rfl, Ka, hFd⟩ := hp2
    dsimp only [zRet]
    rw [hsg] at Ka ⊢
    dsimp only [gM] at Ka ⊢
    have Ft1 := Fr9.rf.tr (hFd.mono (fs2 := [16, 35]) (js2 := [17, 18, 19]) (by simp) (by simp))
    have At1 : σ'.1 33 35 = (nI k) := by rw [hFd.2.1 _ (by decide)]; exact h35
    have Lt1 : ∀ j, j < k → σ'.2.1 33 17 j = σ.2.1 33 17 j ∧ σ'.2.1 33 18 j = σ.2.1 33 18 j ∧ σ'.2.1 33 19 j = σ.2.1 33 19 j := fun j hj => by rw [hFd.2.2.1 17 (by decide), hFd.2.2.1 18 (by decide), hFd.2.2.1 19 (by decide)]; exact L00 j hj
    generalize σ' = t1 at Ft1 At1 Lt1 Ka ⊢
    refine go_iastore k (pc := 17) dX12_readsAct_17 rfl rfl rfl (by omega) ?_
    have Ft2 : Fr9 [16, 35] [17, 18, 19] σ (uA t1 33 17 (upd (t1.2.1 33 17) k (nI 0))) := Ft1.uA (by simp)
    have Kt2 : Cur (uA t1 33 17 (upd (t1.2.1 33 17) k (nI 0))) f _ lim := Ka.fr (fs := []) (js := [17]) (Fr9.rf.uA (by simp)) (by decide) (by decide) (by decide)
    have At2 : (uA t1 33 17 (upd (t1.2.1 33 17) k (nI 0))).1 33 35 = (nI k) := At1
    have Lt2 : ∀ j, j < k → (uA t1 33 17 (upd (t1.2.1 33 17) k (nI 0))).2.1 33 17 j = σ.2.1 33 17 j ∧ (uA t1 33 17 (upd (t1.2.1 33 17) k (nI 0))).2.1 33 18 j = σ.2.1 33 18 j ∧ (uA t1 33 17 (upd (t1.2.1 33 17) k (nI 0))).2.1 33 19 j = σ.2.1 33 19 j := fun j hj => by
      have h := Lt1 j hj
      refine ⟨?_, ?_, ?_⟩
      · rw [uA_2]; first | (rw [if_neg (by decide)]; exact h.1) | (rw [if_pos (by decide), upd_at, if_neg (by omega)]; exact h.1)
      · rw [uA_2]; first | (rw [if_neg (by decide)]; exact h.2.1) | (rw [if_pos (by decide), upd_at, if_neg (by omega)]; exact h.2.1)
      · rw [uA_2]; first | (rw [if_neg (by decide)]; exact h.2.2) | (rw [if_pos (by decide), upd_at, if_neg (by omega)]; exact h.2.2)
    have R17t2 : (uA t1 33 17 (upd (t1.2.1 33 17) k (nI 0))).2.1 33 17 k = (nI 0) := by rw [uA_s, upd_at, if_pos rfl]
    generalize (uA t1 33 17 (upd (t1.2.1 33 17) k (nI 0))) = t2 at Ft2 Kt2 At2 Lt2 R17t2 ⊢
    refine go_aload_n (i := 0) (pc := 18) dX12_readsAct_18 rfl rfl ?_
    refine go_dup (pc := 19) dX12_readsAct_19 rfl ?_
    refine go_geti fl_X12_340 (pc := 20) dX12_readsAct_20 (by rfl) ?_
    rw [At2]
    refine go_iconst (nI 1) (pc := 23) dX12_readsAct_23 (by decide) ?_
    first | with_reducible refine go_iaddN (pc := 24) dX12_readsAct_24 ?_ | refine go_iadd (pc := 24) dX12_readsAct_24 ?_
    refine go_puti fp_X12_340 (pc := 25) dX12_readsAct_25 (by rfl) rfl rfl ?_
    have Ft3 : Fr9 [16, 35] [17, 18, 19] σ (uS t2 33 35 (nI (k + 1))) := Ft2.uS (by simp)
    have Kt3 : Cur (uS t2 33 35 (nI (k + 1))) f _ lim := Kt2.fr (fs := [35]) (js := []) (Fr9.rf.uS (by simp)) (by decide) (by decide) (by decide)
    have At3 : (uS t2 33 35 (nI (k + 1))).1 33 35 = (nI (k + 1)) := uS_s _ _ _ _
    have Lt3 : ∀ j, j < k → (uS t2 33 35 (nI (k + 1))).2.1 33 17 j = σ.2.1 33 17 j ∧ (uS t2 33 35 (nI (k + 1))).2.1 33 18 j = σ.2.1 33 18 j ∧ (uS t2 33 35 (nI (k + 1))).2.1 33 19 j = σ.2.1 33 19 j := Lt2
    have R17t3 : (uS t2 33 35 (nI (k + 1))).2.1 33 17 k = (nI 0) := R17t2
    generalize (uS t2 33 35 (nI (k + 1))) = t3 at Ft3 Kt3 At3 Lt3 R17t3 ⊢
    refine go_aload_n (i := 0) (pc := 28) dX12_readsAct_28 rfl rfl ?_
    refine go_getr2 fl_X12_66 (pc := 29) dX12_readsAct_29 (by rfl) (by rfl) (by rfl) ?_
    refine go_iload_n (i := 1) (pc := 32) dX12_readsAct_32 rfl rfl ?_
    refine go_iaload _ (pc := 33) dX12_readsAct_33 (by first | rfl | (apply zM_ar <;> assumption)) (by first | rfl | (apply zM_jn <;> assumption)) rfl (by first | assumption | omega) ?_
    rw [R17t3]
    refine go_tableIn 72 (off := 38) (pc := 34) dX12_readsAct_34 (by decide) (by decide) (by decide) (by decide) ?_
    refine go_aload_n (i := 0) (pc := 72) dX12_readsAct_72 rfl rfl ?_
    refine go_getr2 fl_X12_69 (pc := 73) dX12_readsAct_73 (by rfl) (by rfl) (by rfl) ?_
    refine go_iload_n (i := 1) (pc := 76) dX12_readsAct_76 rfl rfl ?_
    refine go_aload_n (i := 0) (pc := 77) dX12_readsAct_77 rfl rfl ?_
    refine go_iconst (nI 1) (pc := 78) dX12_readsAct_78 (by decide) ?_
    refine go_callV ml_X12_162 mt_X12_number (pc := 79) dX12_readsAct_79 (c_num1 Kt3) (by rfl) rfl (by rfl) (by decide) (by decide) rfl rfl (Nat.le_of_ble_eq_true rfl) (fun r σ' hp2 => ?_)
    obtain ⟨rfl, Kb, hFe⟩ := hp2
    dsimp only [zRet]
    rw [if_neg h1] at Kb
    refine go_top (congrArg Value.int (if_neg h1)) ?_
    have Ft4 := Ft3.tr (hFe.mono (fs2 := [16, 35]) (js2 := [17, 18, 19]) (by simp) (by simp))
    have At4 : σ'.1 33 35 = (nI (k + 1)) := by rw [hFe.2.1 _ (by decide)]; exact At3
    have Lt4 : ∀ j, j < k → σ'.2.1 33 17 j = σ.2.1 33 17 j ∧ σ'.2.1 33 18 j = σ.2.1 33 18 j ∧ σ'.2.1 33 19 j = σ.2.1 33 19 j := fun j hj => by rw [hFe.2.2.1 17 (by decide), hFe.2.2.1 18 (by decide), hFe.2.2.1 19 (by decide)]; exact Lt3 j hj
    have R17t4 : σ'.2.1 33 17 k = (nI 0) := by rw [hFe.2.2.1 17 (by decide)]; exact R17t3
    generalize σ' = t4 at Ft4 At4 Lt4 Kb R17t4 ⊢
    refine go_iastore k (pc := 82) dX12_readsAct_82 rfl rfl rfl (by omega) ?_
    have Ft5 : Fr9 [16, 35] [17, 18, 19] σ (uA t4 33 18 (upd (t4.2.1 33 18) k (-1))) := Ft4.uA (by simp)
    have Kt5 : Cur (uA t4 33 18 (upd (t4.2.1 33 18) k (-1))) f _ lim := Kb.fr (fs := []) (js := [18]) (Fr9.rf.uA (by simp)) (by decide) (by decide) (by decide)
    have At5 : (uA t4 33 18 (upd (t4.2.1 33 18) k (-1))).1 33 35 = (nI (k + 1)) := At4
    have Lt5 : ∀ j, j < k → (uA t4 33 18 (upd (t4.2.1 33 18) k (-1))).2.1 33 17 j = σ.2.1 33 17 j ∧ (uA t4 33 18 (upd (t4.2.1 33 18) k (-1))).2.1 33 18 j = σ.2.1 33 18 j ∧ (uA t4 33 18 (upd (t4.2.1 33 18) k (-1))).2.1 33 19 j = σ.2.1 33 19 j := fun j hj => by
      have h := Lt4 j hj
      refine ⟨?_, ?_, ?_⟩
      · rw [uA_2]; first | (rw [if_neg (by decide)]; exact h.1) | (rw [if_pos (by decide), upd_at, if_neg (by omega)]; exact h.1)
      · rw [uA_2]; first | (rw [if_neg (by decide)]; exact h.2.1) | (rw [if_pos (by decide), upd_at, if_neg (by omega)]; exact h.2.1)
      · rw [uA_2]; first | (rw [if_neg (by decide)]; exact h.2.2) | (rw [if_pos (by decide), upd_at, if_neg (by omega)]; exact h.2.2)
    have R17t5 : (uA t4 33 18 (upd (t4.2.1 33 18) k (-1))).2.1 33 17 k = (nI 0) := by rw [uA_2, if_neg (by decide)]; exact R17t4
    have R18t5 : (uA t4 33 18 (upd (t4.2.1 33 18) k (-1))).2.1 33 18 k = (-1) := by rw [uA_s, upd_at, if_pos rfl]
    generalize (uA t4 33 18 (upd (t4.2.1 33 18) k (-1))) = t5 at Ft5 Kt5 At5 Lt5 R17t5 R18t5 ⊢
    refine go_aload_n (i := 0) (pc := 83) dX12_readsAct_83 rfl rfl ?_
    refine go_getr2 fl_X12_69 (pc := 84) dX12_readsAct_84 (by rfl) (by rfl) (by rfl) ?_
    refine go_iload_n (i := 1) (pc := 87) dX12_readsAct_87 rfl rfl ?_
    refine go_iaload _ (pc := 88) dX12_readsAct_88 (by first | rfl | (apply zM_ar <;> assumption)) (by first | rfl | (apply zM_jn <;> assumption)) rfl (by first | assumption | omega) ?_
    rw [R18t5]
    refine go_if_lt 96 (pc := 89) dX12_readsAct_89 (by decide) (fun h89 => ?_) (fun h89 => ?_)
    · refine go_iconst (nI 0) (pc := 96) dX12_readsAct_96 (by decide) ?_
      refine go_zreturn (pc := 97) dX12_readsAct_97 rfl rfl ?_
      rw [ec]
      exact ⟨rfl, Kt5, fun h => (by cases h), Lt5, Ft5⟩
    · exact absurd (by decide) h89

theorem c_readsAct1 {E : zE} {σ : zT} {f : Nat → Nat} {p lim k : Nat} (hK : Cur σ f p lim) (hp : p < lim) (h35 : σ.1 33 35 = nI k) (hk : k < 60) (hfp : f p = 109) : CalM E 6 yX12_readsAct cX12_readsAct 2 (some .boolean) [.ref (zA E 33 0)] σ (fun r σ' => r = some (.int (zb (aOne f lim p).1)) ∧ Cur σ' f (aOne f lim p).2 lim ∧ ((aOne f lim p).1 = true → σ'.1 33 35 = nI (k + 1) ∧ ActIs σ' f k p) ∧ (∀ j, j < k → σ'.2.1 33 17 j = σ.2.1 33 17 j ∧ σ'.2.1 33 18 j = σ.2.1 33 18 j ∧ σ'.2.1 33 19 j = σ.2.1 33 19 j) ∧ Fr9 [16, 35] [17, 18, 19] σ σ') := by
  refine cal_of_go (own := RX12) rfl (by decide +kernel) (Nat.le_of_ble_eq_true rfl) ?_
  have hfb := fun i (h : i < 80) => (hK.2.2.2.2 i h).2
  have hl80 := hK.2.2.2.1
  have hfp0 := hfb p (by omega)
  have L00 : ∀ j, j < k → σ.2.1 33 17 j = σ.2.1 33 17 j ∧ σ.2.1 33 18 j = σ.2.1 33 18 j ∧ σ.2.1 33 19 j = σ.2.1 33 19 j := fun _ _ => ⟨rfl, rfl, rfl⟩
  have hsg : amA 6 f p lim = some 1 := by rw [amA_in hp, am_6 _ hfp0, hfp]; rfl
  have hal : aLen (f p) = 3 := by rw [hfp]; rfl
  by_cases h1 : p + 1 < lim ∧ 97 ≤ f (p + 1) ∧ f (p + 1) ≤ 108
  · have hf1 := hfb (p + 1) (by omega)
    have hm1 : amA 7 f (p + 1) lim = some (f (p + 1) - 97) := by
      rw [amA_in h1.1, am_7 _ (hfb (p + 1) (by omega)), if_pos h1.2]
    have e2 : f (p + 1 + 1) = f (p + 2) := rfl
    by_cases h2 : p + 1 + 1 < lim ∧ 48 + 0 ≤ f (p + 1 + 1) ∧ f (p + 1 + 1) ≤ 48 + 9
    · have hf2 := hfb (p + 2) (by omega)
      have ec : aOne f lim p = (true, p + 3) := by
        unfold aOne
        rw [if_neg (by rw [hal]; decide)]
        rw [if_neg (by omega)]
        rw [if_neg (show ¬ fAct (f p) 1 (f (p + 1)) = false by unfold fAct; rw [if_pos ⟨rfl, by omega⟩]; rw [decide_eq_true (by omega)]; decide)]
        rw [if_neg (by rw [hal]; decide), if_neg (by omega)]
        rw [if_neg (show ¬ fAct (f p) 2 (f (p + 2)) = false by unfold fAct; rw [if_neg (by omega)]; rw [decide_eq_true (show (48 ≤ f (p + 2) ∧ f (p + 2) ≤ 57) ∧ ¬ (f p = 112 ∧ f (p + 2) = 48) by omega)]; decide)]
      refine go_aload_n (i := 0) (pc := 0) dX12_readsAct_0 rfl rfl ?_
      refine go_geti fl_X12_340 (pc := 1) dX12_readsAct_1 (by rfl) ?_
      rw [h35]
      refine go_istore_n (i := 1) (pc := 4) dX12_readsAct_4 rfl (by decide) ?_
      refine go_aload_n (i := 0) (pc := 5) dX12_readsAct_5 rfl rfl ?_
      refine go_getr2 fl_X12_66 (pc := 6) dX12_readsAct_6 (by rfl) (by rfl) (by rfl) ?_
      refine go_iload_n (i := 1) (pc := 9) dX12_readsAct_9 rfl rfl ?_
      refine go_aload_n (i := 0) (pc := 10) dX12_readsAct_10 rfl rfl ?_
      refine go_ldcwS 6 rfl rfl (pc := 11) dX12_readsAct_11 ?_
      refine go_callV ml_X12_172 mt_X12_takesOf (pc := 14) dX12_readsAct_14 (c_X12_takesOf (ti := 6) hK (by decide)) (by rfl) rfl (by rfl) (by decide) (by decide) rfl rfl (Nat.le_of_ble_eq_true rfl) (fun r σ' hp2 => ?_)
      obtain ⟨rfl, Ka, hFd⟩ := hp2
      dsimp only [zRet]
      rw [hsg] at Ka ⊢
      dsimp only [gM] at Ka ⊢
      have Ft1 := Fr9.rf.tr (hFd.mono (fs2 := [16, 35]) (js2 := [17, 18, 19]) (by simp) (by simp))
      have At1 : σ'.1 33 35 = (nI k) := by rw [hFd.2.1 _ (by decide)]; exact h35
      have Lt1 : ∀ j, j < k → σ'.2.1 33 17 j = σ.2.1 33 17 j ∧ σ'.2.1 33 18 j = σ.2.1 33 18 j ∧ σ'.2.1 33 19 j = σ.2.1 33 19 j := fun j hj => by rw [hFd.2.2.1 17 (by decide), hFd.2.2.1 18 (by decide), hFd.2.2.1 19 (by decide)]; exact L00 j hj
      generalize σ' = t1 at Ft1 At1 Lt1 Ka ⊢
      refine go_iastore k (pc := 17) dX12_readsAct_17 rfl rfl rfl (by omega) ?_
      have Ft2 : Fr9 [16, 35] [17, 18, 19] σ (uA t1 33 17 (upd (t1.2.1 33 17) k (nI 1))) := Ft1.uA (by simp)
      have Kt2 : Cur (uA t1 33 17 (upd (t1.2.1 33 17) k (nI 1))) f _ lim := Ka.fr (fs := []) (js := [17]) (Fr9.rf.uA (by simp)) (by decide) (by decide) (by decide)
      have At2 : (uA t1 33 17 (upd (t1.2.1 33 17) k (nI 1))).1 33 35 = (nI k) := At1
      have Lt2 : ∀ j, j < k → (uA t1 33 17 (upd (t1.2.1 33 17) k (nI 1))).2.1 33 17 j = σ.2.1 33 17 j ∧ (uA t1 33 17 (upd (t1.2.1 33 17) k (nI 1))).2.1 33 18 j = σ.2.1 33 18 j ∧ (uA t1 33 17 (upd (t1.2.1 33 17) k (nI 1))).2.1 33 19 j = σ.2.1 33 19 j := fun j hj => by
        have h := Lt1 j hj
        refine ⟨?_, ?_, ?_⟩
        · rw [uA_2]; first | (rw [if_neg (by decide)]; exact h.1) | (rw [if_pos (by decide), upd_at, if_neg (by omega)]; exact h.1)
        · rw [uA_2]; first | (rw [if_neg (by decide)]; exact h.2.1) | (rw [if_pos (by decide), upd_at, if_neg (by omega)]; exact h.2.1)
        · rw [uA_2]; first | (rw [if_neg (by decide)]; exact h.2.2) | (rw [if_pos (by decide), upd_at, if_neg (by omega)]; exact h.2.2)
      have R17t2 : (uA t1 33 17 (upd (t1.2.1 33 17) k (nI 1))).2.1 33 17 k = (nI 1) := by rw [uA_s, upd_at, if_pos rfl]
      generalize (uA t1 33 17 (upd (t1.2.1 33 17) k (nI 1))) = t2 at Ft2 Kt2 At2 Lt2 R17t2 ⊢
      refine go_aload_n (i := 0) (pc := 18) dX12_readsAct_18 rfl rfl ?_
      refine go_dup (pc := 19) dX12_readsAct_19 rfl ?_
      refine go_geti fl_X12_340 (pc := 20) dX12_readsAct_20 (by rfl) ?_
      rw [At2]
      refine go_iconst (nI 1) (pc := 23) dX12_readsAct_23 (by decide) ?_
      first | with_reducible refine go_iaddN (pc := 24) dX12_readsAct_24 ?_ | refine go_iadd (pc := 24) dX12_readsAct_24 ?_
      refine go_puti fp_X12_340 (pc := 25) dX12_readsAct_25 (by rfl) rfl rfl ?_
      have Ft3 : Fr9 [16, 35] [17, 18, 19] σ (uS t2 33 35 (nI (k + 1))) := Ft2.uS (by simp)
      have Kt3 : Cur (uS t2 33 35 (nI (k + 1))) f _ lim := Kt2.fr (fs := [35]) (js := []) (Fr9.rf.uS (by simp)) (by decide) (by decide) (by decide)
      have At3 : (uS t2 33 35 (nI (k + 1))).1 33 35 = (nI (k + 1)) := uS_s _ _ _ _
      have Lt3 : ∀ j, j < k → (uS t2 33 35 (nI (k + 1))).2.1 33 17 j = σ.2.1 33 17 j ∧ (uS t2 33 35 (nI (k + 1))).2.1 33 18 j = σ.2.1 33 18 j ∧ (uS t2 33 35 (nI (k + 1))).2.1 33 19 j = σ.2.1 33 19 j := Lt2
      have R17t3 : (uS t2 33 35 (nI (k + 1))).2.1 33 17 k = (nI 1) := R17t2
      generalize (uS t2 33 35 (nI (k + 1))) = t3 at Ft3 Kt3 At3 Lt3 R17t3 ⊢
      refine go_aload_n (i := 0) (pc := 28) dX12_readsAct_28 rfl rfl ?_
      refine go_getr2 fl_X12_66 (pc := 29) dX12_readsAct_29 (by rfl) (by rfl) (by rfl) ?_
      refine go_iload_n (i := 1) (pc := 32) dX12_readsAct_32 rfl rfl ?_
      refine go_iaload _ (pc := 33) dX12_readsAct_33 (by first | rfl | (apply zM_ar <;> assumption)) (by first | rfl | (apply zM_jn <;> assumption)) rfl (by first | assumption | omega) ?_
      rw [R17t3]
      refine go_tableIn 98 (off := 64) (pc := 34) dX12_readsAct_34 (by decide) (by decide) (by decide) (by decide) ?_
      refine go_aload_n (i := 0) (pc := 98) dX12_readsAct_98 rfl rfl ?_
      refine go_getr2 fl_X12_69 (pc := 99) dX12_readsAct_99 (by rfl) (by rfl) (by rfl) ?_
      refine go_iload_n (i := 1) (pc := 102) dX12_readsAct_102 rfl rfl ?_
      refine go_aload_n (i := 0) (pc := 103) dX12_readsAct_103 rfl rfl ?_
      refine go_ldcwS 7 rfl rfl (pc := 104) dX12_readsAct_104 ?_
      refine go_callV ml_X12_172 mt_X12_takesOf (pc := 107) dX12_readsAct_107 (c_X12_takesOf (ti := 7) Kt3 (by decide)) (by rfl) rfl (by rfl) (by decide) (by decide) rfl rfl (Nat.le_of_ble_eq_true rfl) (fun r σ' hp2 => ?_)
      obtain ⟨rfl, Kb, hFe⟩ := hp2
      dsimp only [zRet]
      rw [hm1] at Kb ⊢
      dsimp only [gM] at Kb ⊢
      have Ft4 := Ft3.tr (hFe.mono (fs2 := [16, 35]) (js2 := [17, 18, 19]) (by simp) (by simp))
      have At4 : σ'.1 33 35 = (nI (k + 1)) := by rw [hFe.2.1 _ (by decide)]; exact At3
      have Lt4 : ∀ j, j < k → σ'.2.1 33 17 j = σ.2.1 33 17 j ∧ σ'.2.1 33 18 j = σ.2.1 33 18 j ∧ σ'.2.1 33 19 j = σ.2.1 33 19 j := fun j hj => by rw [hFe.2.2.1 17 (by decide), hFe.2.2.1 18 (by decide), hFe.2.2.1 19 (by decide)]; exact Lt3 j hj
      have R17t4 : σ'.2.1 33 17 k = (nI 1) := by rw [hFe.2.2.1 17 (by decide)]; exact R17t3
      generalize σ' = t4 at Ft4 At4 Lt4 Kb R17t4 ⊢
      refine go_iastore k (pc := 110) dX12_readsAct_110 rfl rfl rfl (by omega) ?_
      have Ft5 : Fr9 [16, 35] [17, 18, 19] σ (uA t4 33 18 (upd (t4.2.1 33 18) k (nI (f (p + 1) - 97)))) := Ft4.uA (by simp)
      have Kt5 : Cur (uA t4 33 18 (upd (t4.2.1 33 18) k (nI (f (p + 1) - 97)))) f _ lim := Kb.fr (fs := []) (js := [18]) (Fr9.rf.uA (by simp)) (by decide) (by decide) (by decide)
      have At5 : (uA t4 33 18 (upd (t4.2.1 33 18) k (nI (f (p + 1) - 97)))).1 33 35 = (nI (k + 1)) := At4
      have Lt5 : ∀ j, j < k → (uA t4 33 18 (upd (t4.2.1 33 18) k (nI (f (p + 1) - 97)))).2.1 33 17 j = σ.2.1 33 17 j ∧ (uA t4 33 18 (upd (t4.2.1 33 18) k (nI (f (p + 1) - 97)))).2.1 33 18 j = σ.2.1 33 18 j ∧ (uA t4 33 18 (upd (t4.2.1 33 18) k (nI (f (p + 1) - 97)))).2.1 33 19 j = σ.2.1 33 19 j := fun j hj => by
        have h := Lt4 j hj
        refine ⟨?_, ?_, ?_⟩
        · rw [uA_2]; first | (rw [if_neg (by decide)]; exact h.1) | (rw [if_pos (by decide), upd_at, if_neg (by omega)]; exact h.1)
        · rw [uA_2]; first | (rw [if_neg (by decide)]; exact h.2.1) | (rw [if_pos (by decide), upd_at, if_neg (by omega)]; exact h.2.1)
        · rw [uA_2]; first | (rw [if_neg (by decide)]; exact h.2.2) | (rw [if_pos (by decide), upd_at, if_neg (by omega)]; exact h.2.2)
      have R17t5 : (uA t4 33 18 (upd (t4.2.1 33 18) k (nI (f (p + 1) - 97)))).2.1 33 17 k = (nI 1) := by rw [uA_2, if_neg (by decide)]; exact R17t4
      have R18t5 : (uA t4 33 18 (upd (t4.2.1 33 18) k (nI (f (p + 1) - 97)))).2.1 33 18 k = (nI (f (p + 1) - 97)) := by rw [uA_s, upd_at, if_pos rfl]
      generalize (uA t4 33 18 (upd (t4.2.1 33 18) k (nI (f (p + 1) - 97)))) = t5 at Ft5 Kt5 At5 Lt5 R17t5 R18t5 ⊢
      refine go_aload_n (i := 0) (pc := 111) dX12_readsAct_111 rfl rfl ?_
      refine go_getr2 fl_X12_72 (pc := 112) dX12_readsAct_112 (by rfl) (by rfl) (by rfl) ?_
      refine go_iload_n (i := 1) (pc := 115) dX12_readsAct_115 rfl rfl ?_
      refine go_aload_n (i := 0) (pc := 116) dX12_readsAct_116 rfl rfl ?_
      refine go_getr2 fl_X12_69 (pc := 117) dX12_readsAct_117 (by rfl) (by rfl) (by rfl) ?_
      refine go_iload_n (i := 1) (pc := 120) dX12_readsAct_120 rfl rfl ?_
      refine go_iaload _ (pc := 121) dX12_readsAct_121 (by first | rfl | (apply zM_ar <;> assumption)) (by first | rfl | (apply zM_jn <;> assumption)) rfl (by first | assumption | omega) ?_
      rw [R18t5]
      refine go_if_ge 129 (pc := 122) dX12_readsAct_122 (by decide) (fun h122 => ?_) (fun h122 => ?_)
      · refine go_aload_n (i := 0) (pc := 129) dX12_readsAct_129 rfl rfl ?_
        refine go_aload_n (i := 0) (pc := 130) dX12_readsAct_130 rfl rfl ?_
        refine go_getr2 fl_X12_66 (pc := 131) dX12_readsAct_131 (by rfl) (by rfl) (by rfl) ?_
        refine go_iload_n (i := 1) (pc := 134) dX12_readsAct_134 rfl rfl ?_
        refine go_iaload _ (pc := 135) dX12_readsAct_135 (by first | rfl | (apply zM_ar <;> assumption)) (by first | rfl | (apply zM_jn <;> assumption)) rfl (by first | assumption | omega) ?_
        rw [R17t5]
        refine go_iconst (nI 1) (pc := 136) dX12_readsAct_136 (by decide) ?_
        refine go_isubN (pc := 137) dX12_readsAct_137 (by decide) ?_
        refine go_bipush (nI 9) (pc := 138) dX12_readsAct_138 (by decide) ?_
        refine go_callV ml_X12_186 mt_X12_digitIn (pc := 140) dX12_readsAct_140 (c_X12_digitIn (lo := 0) (hi := 9) Kt5 (by decide) (by decide)) (by rfl) rfl (by rfl) (by decide) (by decide) rfl rfl (Nat.le_of_ble_eq_true rfl) (fun r σ' hp2 => ?_)
        obtain ⟨rfl, Kc, hFg⟩ := hp2
        dsimp only [zRet]
        rw [if_pos h2] at Kc ⊢
        have Ft6 := Ft5.tr (hFg.mono (fs2 := [16, 35]) (js2 := [17, 18, 19]) (by simp) (by simp))
        have At6 : σ'.1 33 35 = (nI (k + 1)) := by rw [hFg.2.1 _ (by decide)]; exact At5
        have Lt6 : ∀ j, j < k → σ'.2.1 33 17 j = σ.2.1 33 17 j ∧ σ'.2.1 33 18 j = σ.2.1 33 18 j ∧ σ'.2.1 33 19 j = σ.2.1 33 19 j := fun j hj => by rw [hFg.2.2.1 17 (by decide), hFg.2.2.1 18 (by decide), hFg.2.2.1 19 (by decide)]; exact Lt5 j hj
        have R17t6 : σ'.2.1 33 17 k = (nI 1) := by rw [hFg.2.2.1 17 (by decide)]; exact R17t5
        have R18t6 : σ'.2.1 33 18 k = (nI (f (p + 1) - 97)) := by rw [hFg.2.2.1 18 (by decide)]; exact R18t5
        generalize σ' = t6 at Ft6 At6 Lt6 Kc R17t6 R18t6 ⊢
        refine go_iastore k (pc := 143) dX12_readsAct_143 rfl rfl rfl (by omega) ?_
        have Ft7 : Fr9 [16, 35] [17, 18, 19] σ (uA t6 33 19 (upd (t6.2.1 33 19) k (nI (f (p + 2) - 48)))) := Ft6.uA (by simp)
        have Kt7 : Cur (uA t6 33 19 (upd (t6.2.1 33 19) k (nI (f (p + 2) - 48)))) f _ lim := Kc.fr (fs := []) (js := [19]) (Fr9.rf.uA (by simp)) (by decide) (by decide) (by decide)
        have At7 : (uA t6 33 19 (upd (t6.2.1 33 19) k (nI (f (p + 2) - 48)))).1 33 35 = (nI (k + 1)) := At6
        have Lt7 : ∀ j, j < k → (uA t6 33 19 (upd (t6.2.1 33 19) k (nI (f (p + 2) - 48)))).2.1 33 17 j = σ.2.1 33 17 j ∧ (uA t6 33 19 (upd (t6.2.1 33 19) k (nI (f (p + 2) - 48)))).2.1 33 18 j = σ.2.1 33 18 j ∧ (uA t6 33 19 (upd (t6.2.1 33 19) k (nI (f (p + 2) - 48)))).2.1 33 19 j = σ.2.1 33 19 j := fun j hj => by
          have h := Lt6 j hj
          refine ⟨?_, ?_, ?_⟩
          · rw [uA_2]; first | (rw [if_neg (by decide)]; exact h.1) | (rw [if_pos (by decide), upd_at, if_neg (by omega)]; exact h.1)
          · rw [uA_2]; first | (rw [if_neg (by decide)]; exact h.2.1) | (rw [if_pos (by decide), upd_at, if_neg (by omega)]; exact h.2.1)
          · rw [uA_2]; first | (rw [if_neg (by decide)]; exact h.2.2) | (rw [if_pos (by decide), upd_at, if_neg (by omega)]; exact h.2.2)
        have R17t7 : (uA t6 33 19 (upd (t6.2.1 33 19) k (nI (f (p + 2) - 48)))).2.1 33 17 k = (nI 1) := by rw [uA_2, if_neg (by decide)]; exact R17t6
        have R18t7 : (uA t6 33 19 (upd (t6.2.1 33 19) k (nI (f (p + 2) - 48)))).2.1 33 18 k = (nI (f (p + 1) - 97)) := by rw [uA_2, if_neg (by decide)]; exact R18t6
        have R19t7 : (uA t6 33 19 (upd (t6.2.1 33 19) k (nI (f (p + 2) - 48)))).2.1 33 19 k = (nI (f (p + 2) - 48)) := by rw [uA_s, upd_at, if_pos rfl]
        generalize (uA t6 33 19 (upd (t6.2.1 33 19) k (nI (f (p + 2) - 48)))) = t7 at Ft7 Kt7 At7 Lt7 R17t7 R18t7 R19t7 ⊢
        refine go_aload_n (i := 0) (pc := 144) dX12_readsAct_144 rfl rfl ?_
        refine go_getr2 fl_X12_72 (pc := 145) dX12_readsAct_145 (by rfl) (by rfl) (by rfl) ?_
        refine go_iload_n (i := 1) (pc := 148) dX12_readsAct_148 rfl rfl ?_
        refine go_iaload _ (pc := 149) dX12_readsAct_149 (by first | rfl | (apply zM_ar <;> assumption)) (by first | rfl | (apply zM_jn <;> assumption)) rfl (by first | assumption | omega) ?_
        rw [R19t7]
        refine go_if_lt 157 (pc := 150) dX12_readsAct_150 (by decide) (fun h150 => ?_) (fun h150 => ?_)
        · exact absurd h150 (nI_pos (by omega))
        · refine go_iconst (nI 1) (pc := 153) dX12_readsAct_153 (by decide) ?_
          refine go_goto 158 (pc := 154) dX12_readsAct_154 (by decide) ?_
          refine go_zreturn (pc := 158) dX12_readsAct_158 rfl rfl ?_
          rw [ec]
          exact ⟨rfl, Kt7, fun _ => ⟨At7, by rw [R17t7, hfp]; rfl, by rw [R18t7]; unfold aV1; rw [hfp]; rfl, fun h => R19t7⟩, Lt7, Ft7⟩
      · exact absurd (nI_pos' (by omega)) h122
    · skip
      have ec : aOne f lim p = (false, p + 2) := by
        unfold aOne
        rw [if_neg (by rw [hal]; decide)]
        rw [if_neg (by omega)]
        rw [if_neg (show ¬ fAct (f p) 1 (f (p + 1)) = false by unfold fAct; rw [if_pos ⟨rfl, by omega⟩]; rw [decide_eq_true (by omega)]; decide)]
        rw [if_neg (by rw [hal]; decide)]
        by_cases hl : lim ≤ p + 2
        · rw [if_pos hl, show lim = p + 2 by omega]
        · rw [if_neg hl, if_pos (show fAct (f p) 2 (f (p + 2)) = false by unfold fAct; rw [if_neg (by omega)]; exact decide_eq_false (by omega))]
      refine go_aload_n (i := 0) (pc := 0) dX12_readsAct_0 rfl rfl ?_
      refine go_geti fl_X12_340 (pc := 1) dX12_readsAct_1 (by rfl) ?_
      rw [h35]
      refine go_istore_n (i := 1) (pc := 4) dX12_readsAct_4 rfl (by decide) ?_
      refine go_aload_n (i := 0) (pc := 5) dX12_readsAct_5 rfl rfl ?_
      refine go_getr2 fl_X12_66 (pc := 6) dX12_readsAct_6 (by rfl) (by rfl) (by rfl) ?_
      refine go_iload_n (i := 1) (pc := 9) dX12_readsAct_9 rfl rfl ?_
      refine go_aload_n (i := 0) (pc := 10) dX12_readsAct_10 rfl rfl ?_
      refine go_ldcwS 6 rfl rfl (pc := 11) dX12_readsAct_11 ?_
      refine go_callV ml_X12_172 mt_X12_takesOf (pc := 14) dX12_readsAct_14 (c_X12_takesOf (ti := 6) hK (by decide)) (by rfl) rfl (by rfl) (by decide) (by decide) rfl rfl (Nat.le_of_ble_eq_true rfl) (fun r σ' hp2 => ?_)
      obtain ⟨rfl, Ka, hFd⟩ := hp2
      dsimp only [zRet]
      rw [hsg] at Ka ⊢
      dsimp only [gM] at Ka ⊢
      have Ft1 := Fr9.rf.tr (hFd.mono (fs2 := [16, 35]) (js2 := [17, 18, 19]) (by simp) (by simp))
      have At1 : σ'.1 33 35 = (nI k) := by rw [hFd.2.1 _ (by decide)]; exact h35
      have Lt1 : ∀ j, j < k → σ'.2.1 33 17 j = σ.2.1 33 17 j ∧ σ'.2.1 33 18 j = σ.2.1 33 18 j ∧ σ'.2.1 33 19 j = σ.2.1 33 19 j := fun j hj => by rw [hFd.2.2.1 17 (by decide), hFd.2.2.1 18 (by decide), hFd.2.2.1 19 (by decide)]; exact L00 j hj
      generalize σ' = t1 at Ft1 At1 Lt1 Ka ⊢
      refine go_iastore k (pc := 17) dX12_readsAct_17 rfl rfl rfl (by omega) ?_
      have Ft2 : Fr9 [16, 35] [17, 18, 19] σ (uA t1 33 17 (upd (t1.2.1 33 17) k (nI 1))) := Ft1.uA (by simp)
      have Kt2 : Cur (uA t1 33 17 (upd (t1.2.1 33 17) k (nI 1))) f _ lim := Ka.fr (fs := []) (js := [17]) (Fr9.rf.uA (by simp)) (by decide) (by decide) (by decide)
      have At2 : (uA t1 33 17 (upd (t1.2.1 33 17) k (nI 1))).1 33 35 = (nI k) := At1
      have Lt2 : ∀ j, j < k → (uA t1 33 17 (upd (t1.2.1 33 17) k (nI 1))).2.1 33 17 j = σ.2.1 33 17 j ∧ (uA t1 33 17 (upd (t1.2.1 33 17) k (nI 1))).2.1 33 18 j = σ.2.1 33 18 j ∧ (uA t1 33 17 (upd (t1.2.1 33 17) k (nI 1))).2.1 33 19 j = σ.2.1 33 19 j := fun j hj => by
        have h := Lt1 j hj
        refine ⟨?_, ?_, ?_⟩
        · rw [uA_2]; first | (rw [if_neg (by decide)]; exact h.1) | (rw [if_pos (by decide), upd_at, if_neg (by omega)]; exact h.1)
        · rw [uA_2]; first | (rw [if_neg (by decide)]; exact h.2.1) | (rw [if_pos (by decide), upd_at, if_neg (by omega)]; exact h.2.1)
        · rw [uA_2]; first | (rw [if_neg (by decide)]; exact h.2.2) | (rw [if_pos (by decide), upd_at, if_neg (by omega)]; exact h.2.2)
      have R17t2 : (uA t1 33 17 (upd (t1.2.1 33 17) k (nI 1))).2.1 33 17 k = (nI 1) := by rw [uA_s, upd_at, if_pos rfl]
      generalize (uA t1 33 17 (upd (t1.2.1 33 17) k (nI 1))) = t2 at Ft2 Kt2 At2 Lt2 R17t2 ⊢
      refine go_aload_n (i := 0) (pc := 18) dX12_readsAct_18 rfl rfl ?_
      refine go_dup (pc := 19) dX12_readsAct_19 rfl ?_
      refine go_geti fl_X12_340 (pc := 20) dX12_readsAct_20 (by rfl) ?_
      rw [At2]
      refine go_iconst (nI 1) (pc := 23) dX12_readsAct_23 (by decide) ?_
      first | with_reducible refine go_iaddN (pc := 24) dX12_readsAct_24 ?_ | refine go_iadd (pc := 24) dX12_readsAct_24 ?_
      refine go_puti fp_X12_340 (pc := 25) dX12_readsAct_25 (by rfl) rfl rfl ?_
      have Ft3 : Fr9 [16, 35] [17, 18, 19] σ (uS t2 33 35 (nI (k + 1))) := Ft2.uS (by simp)
      have Kt3 : Cur (uS t2 33 35 (nI (k + 1))) f _ lim := Kt2.fr (fs := [35]) (js := []) (Fr9.rf.uS (by simp)) (by decide) (by decide) (by decide)
      have At3 : (uS t2 33 35 (nI (k + 1))).1 33 35 = (nI (k + 1)) := uS_s _ _ _ _
      have Lt3 : ∀ j, j < k → (uS t2 33 35 (nI (k + 1))).2.1 33 17 j = σ.2.1 33 17 j ∧ (uS t2 33 35 (nI (k + 1))).2.1 33 18 j = σ.2.1 33 18 j ∧ (uS t2 33 35 (nI (k + 1))).2.1 33 19 j = σ.2.1 33 19 j := Lt2
      have R17t3 : (uS t2 33 35 (nI (k + 1))).2.1 33 17 k = (nI 1) := R17t2
      generalize (uS t2 33 35 (nI (k + 1))) = t3 at Ft3 Kt3 At3 Lt3 R17t3 ⊢
      refine go_aload_n (i := 0) (pc := 28) dX12_readsAct_28 rfl rfl ?_
      refine go_getr2 fl_X12_66 (pc := 29) dX12_readsAct_29 (by rfl) (by rfl) (by rfl) ?_
      refine go_iload_n (i := 1) (pc := 32) dX12_readsAct_32 rfl rfl ?_
      refine go_iaload _ (pc := 33) dX12_readsAct_33 (by first | rfl | (apply zM_ar <;> assumption)) (by first | rfl | (apply zM_jn <;> assumption)) rfl (by first | assumption | omega) ?_
      rw [R17t3]
      refine go_tableIn 98 (off := 64) (pc := 34) dX12_readsAct_34 (by decide) (by decide) (by decide) (by decide) ?_
      refine go_aload_n (i := 0) (pc := 98) dX12_readsAct_98 rfl rfl ?_
      refine go_getr2 fl_X12_69 (pc := 99) dX12_readsAct_99 (by rfl) (by rfl) (by rfl) ?_
      refine go_iload_n (i := 1) (pc := 102) dX12_readsAct_102 rfl rfl ?_
      refine go_aload_n (i := 0) (pc := 103) dX12_readsAct_103 rfl rfl ?_
      refine go_ldcwS 7 rfl rfl (pc := 104) dX12_readsAct_104 ?_
      refine go_callV ml_X12_172 mt_X12_takesOf (pc := 107) dX12_readsAct_107 (c_X12_takesOf (ti := 7) Kt3 (by decide)) (by rfl) rfl (by rfl) (by decide) (by decide) rfl rfl (Nat.le_of_ble_eq_true rfl) (fun r σ' hp2 => ?_)
      obtain ⟨rfl, Kb, hFe⟩ := hp2
      dsimp only [zRet]
      rw [hm1] at Kb ⊢
      dsimp only [gM] at Kb ⊢
      have Ft4 := Ft3.tr (hFe.mono (fs2 := [16, 35]) (js2 := [17, 18, 19]) (by simp) (by simp))
      have At4 : σ'.1 33 35 = (nI (k + 1)) := by rw [hFe.2.1 _ (by decide)]; exact At3
      have Lt4 : ∀ j, j < k → σ'.2.1 33 17 j = σ.2.1 33 17 j ∧ σ'.2.1 33 18 j = σ.2.1 33 18 j ∧ σ'.2.1 33 19 j = σ.2.1 33 19 j := fun j hj => by rw [hFe.2.2.1 17 (by decide), hFe.2.2.1 18 (by decide), hFe.2.2.1 19 (by decide)]; exact Lt3 j hj
      have R17t4 : σ'.2.1 33 17 k = (nI 1) := by rw [hFe.2.2.1 17 (by decide)]; exact R17t3
      generalize σ' = t4 at Ft4 At4 Lt4 Kb R17t4 ⊢
      refine go_iastore k (pc := 110) dX12_readsAct_110 rfl rfl rfl (by omega) ?_
      have Ft5 : Fr9 [16, 35] [17, 18, 19] σ (uA t4 33 18 (upd (t4.2.1 33 18) k (nI (f (p + 1) - 97)))) := Ft4.uA (by simp)
      have Kt5 : Cur (uA t4 33 18 (upd (t4.2.1 33 18) k (nI (f (p + 1) - 97)))) f _ lim := Kb.fr (fs := []) (js := [18]) (Fr9.rf.uA (by simp)) (by decide) (by decide) (by decide)
      have At5 : (uA t4 33 18 (upd (t4.2.1 33 18) k (nI (f (p + 1) - 97)))).1 33 35 = (nI (k + 1)) := At4
      have Lt5 : ∀ j, j < k → (uA t4 33 18 (upd (t4.2.1 33 18) k (nI (f (p + 1) - 97)))).2.1 33 17 j = σ.2.1 33 17 j ∧ (uA t4 33 18 (upd (t4.2.1 33 18) k (nI (f (p + 1) - 97)))).2.1 33 18 j = σ.2.1 33 18 j ∧ (uA t4 33 18 (upd (t4.2.1 33 18) k (nI (f (p + 1) - 97)))).2.1 33 19 j = σ.2.1 33 19 j := fun j hj => by
        have h := Lt4 j hj
        refine ⟨?_, ?_, ?_⟩
        · rw [uA_2]; first | (rw [if_neg (by decide)]; exact h.1) | (rw [if_pos (by decide), upd_at, if_neg (by omega)]; exact h.1)
        · rw [uA_2]; first | (rw [if_neg (by decide)]; exact h.2.1) | (rw [if_pos (by decide), upd_at, if_neg (by omega)]; exact h.2.1)
        · rw [uA_2]; first | (rw [if_neg (by decide)]; exact h.2.2) | (rw [if_pos (by decide), upd_at, if_neg (by omega)]; exact h.2.2)
      have R17t5 : (uA t4 33 18 (upd (t4.2.1 33 18) k (nI (f (p + 1) - 97)))).2.1 33 17 k = (nI 1) := by rw [uA_2, if_neg (by decide)]; exact R17t4
      have R18t5 : (uA t4 33 18 (upd (t4.2.1 33 18) k (nI (f (p + 1) - 97)))).2.1 33 18 k = (nI (f (p + 1) - 97)) := by rw [uA_s, upd_at, if_pos rfl]
      generalize (uA t4 33 18 (upd (t4.2.1 33 18) k (nI (f (p + 1) - 97)))) = t5 at Ft5 Kt5 At5 Lt5 R17t5 R18t5 ⊢
      refine go_aload_n (i := 0) (pc := 111) dX12_readsAct_111 rfl rfl ?_
      refine go_getr2 fl_X12_72 (pc := 112) dX12_readsAct_112 (by rfl) (by rfl) (by rfl) ?_
      refine go_iload_n (i := 1) (pc := 115) dX12_readsAct_115 rfl rfl ?_
      refine go_aload_n (i := 0) (pc := 116) dX12_readsAct_116 rfl rfl ?_
      refine go_getr2 fl_X12_69 (pc := 117) dX12_readsAct_117 (by rfl) (by rfl) (by rfl) ?_
      refine go_iload_n (i := 1) (pc := 120) dX12_readsAct_120 rfl rfl ?_
      refine go_iaload _ (pc := 121) dX12_readsAct_121 (by first | rfl | (apply zM_ar <;> assumption)) (by first | rfl | (apply zM_jn <;> assumption)) rfl (by first | assumption | omega) ?_
      rw [R18t5]
      refine go_if_ge 129 (pc := 122) dX12_readsAct_122 (by decide) (fun h122 => ?_) (fun h122 => ?_)
      · refine go_aload_n (i := 0) (pc := 129) dX12_readsAct_129 rfl rfl ?_
        refine go_aload_n (i := 0) (pc := 130) dX12_readsAct_130 rfl rfl ?_
        refine go_getr2 fl_X12_66 (pc := 131) dX12_readsAct_131 (by rfl) (by rfl) (by rfl) ?_
        refine go_iload_n (i := 1) (pc := 134) dX12_readsAct_134 rfl rfl ?_
        refine go_iaload _ (pc := 135) dX12_readsAct_135 (by first | rfl | (apply zM_ar <;> assumption)) (by first | rfl | (apply zM_jn <;> assumption)) rfl (by first | assumption | omega) ?_
        rw [R17t5]
        refine go_iconst (nI 1) (pc := 136) dX12_readsAct_136 (by decide) ?_
        refine go_isubN (pc := 137) dX12_readsAct_137 (by decide) ?_
        refine go_bipush (nI 9) (pc := 138) dX12_readsAct_138 (by decide) ?_
        refine go_callV ml_X12_186 mt_X12_digitIn (pc := 140) dX12_readsAct_140 (c_X12_digitIn (lo := 0) (hi := 9) Kt5 (by decide) (by decide)) (by rfl) rfl (by rfl) (by decide) (by decide) rfl rfl (Nat.le_of_ble_eq_true rfl) (fun r σ' hp2 => ?_)
        obtain ⟨rfl, Kc, hFg⟩ := hp2
        dsimp only [zRet]
        rw [if_neg h2] at Kc ⊢
        have Ft6 := Ft5.tr (hFg.mono (fs2 := [16, 35]) (js2 := [17, 18, 19]) (by simp) (by simp))
        have At6 : σ'.1 33 35 = (nI (k + 1)) := by rw [hFg.2.1 _ (by decide)]; exact At5
        have Lt6 : ∀ j, j < k → σ'.2.1 33 17 j = σ.2.1 33 17 j ∧ σ'.2.1 33 18 j = σ.2.1 33 18 j ∧ σ'.2.1 33 19 j = σ.2.1 33 19 j := fun j hj => by rw [hFg.2.2.1 17 (by decide), hFg.2.2.1 18 (by decide), hFg.2.2.1 19 (by decide)]; exact Lt5 j hj
        have R17t6 : σ'.2.1 33 17 k = (nI 1) := by rw [hFg.2.2.1 17 (by decide)]; exact R17t5
        have R18t6 : σ'.2.1 33 18 k = (nI (f (p + 1) - 97)) := by rw [hFg.2.2.1 18 (by decide)]; exact R18t5
        generalize σ' = t6 at Ft6 At6 Lt6 Kc R17t6 R18t6 ⊢
        refine go_iastore k (pc := 143) dX12_readsAct_143 rfl rfl rfl (by omega) ?_
        have Ft7 : Fr9 [16, 35] [17, 18, 19] σ (uA t6 33 19 (upd (t6.2.1 33 19) k (-1))) := Ft6.uA (by simp)
        have Kt7 : Cur (uA t6 33 19 (upd (t6.2.1 33 19) k (-1))) f _ lim := Kc.fr (fs := []) (js := [19]) (Fr9.rf.uA (by simp)) (by decide) (by decide) (by decide)
        have At7 : (uA t6 33 19 (upd (t6.2.1 33 19) k (-1))).1 33 35 = (nI (k + 1)) := At6
        have Lt7 : ∀ j, j < k → (uA t6 33 19 (upd (t6.2.1 33 19) k (-1))).2.1 33 17 j = σ.2.1 33 17 j ∧ (uA t6 33 19 (upd (t6.2.1 33 19) k (-1))).2.1 33 18 j = σ.2.1 33 18 j ∧ (uA t6 33 19 (upd (t6.2.1 33 19) k (-1))).2.1 33 19 j = σ.2.1 33 19 j := fun j hj => by
          have h := Lt6 j hj
          refine ⟨?_, ?_, ?_⟩
          · rw [uA_2]; first | (rw [if_neg (by decide)]; exact h.1) | (rw [if_pos (by decide), upd_at, if_neg (by omega)]; exact h.1)
          · rw [uA_2]; first | (rw [if_neg (by decide)]; exact h.2.1) | (rw [if_pos (by decide), upd_at, if_neg (by omega)]; exact h.2.1)
          · rw [uA_2]; first | (rw [if_neg (by decide)]; exact h.2.2) | (rw [if_pos (by decide), upd_at, if_neg (by omega)]; exact h.2.2)
        have R17t7 : (uA t6 33 19 (upd (t6.2.1 33 19) k (-1))).2.1 33 17 k = (nI 1) := by rw [uA_2, if_neg (by decide)]; exact R17t6
        have R18t7 : (uA t6 33 19 (upd (t6.2.1 33 19) k (-1))).2.1 33 18 k = (nI (f (p + 1) - 97)) := by rw [uA_2, if_neg (by decide)]; exact R18t6
        have R19t7 : (uA t6 33 19 (upd (t6.2.1 33 19) k (-1))).2.1 33 19 k = (-1) := by rw [uA_s, upd_at, if_pos rfl]
        generalize (uA t6 33 19 (upd (t6.2.1 33 19) k (-1))) = t7 at Ft7 Kt7 At7 Lt7 R17t7 R18t7 R19t7 ⊢
        refine go_aload_n (i := 0) (pc := 144) dX12_readsAct_144 rfl rfl ?_
        refine go_getr2 fl_X12_72 (pc := 145) dX12_readsAct_145 (by rfl) (by rfl) (by rfl) ?_
        refine go_iload_n (i := 1) (pc := 148) dX12_readsAct_148 rfl rfl ?_
        refine go_iaload _ (pc := 149) dX12_readsAct_149 (by first | rfl | (apply zM_ar <;> assumption)) (by first | rfl | (apply zM_jn <;> assumption)) rfl (by first | assumption | omega) ?_
        rw [R19t7]
        refine go_if_lt 157 (pc := 150) dX12_readsAct_150 (by decide) (fun h150 => ?_) (fun h150 => ?_)
        · refine go_iconst (nI 0) (pc := 157) dX12_readsAct_157 (by decide) ?_
          refine go_zreturn (pc := 158) dX12_readsAct_158 rfl rfl ?_
          rw [ec]
          exact ⟨rfl, Kt7, fun h => (by cases h), Lt7, Ft7⟩
        · exact absurd (by decide) h150
      · exact absurd (nI_pos' (by omega)) h122
  · skip
    have ec : aOne f lim p = (false, p + 1) := by
      unfold aOne
      rw [if_neg (by rw [hal]; decide)]
      by_cases hl : lim ≤ p + 1
      · rw [if_pos hl, show lim = p + 1 by omega]
      · rw [if_neg hl, if_pos (show fAct (f p) 1 (f (p + 1)) = false by unfold fAct; rw [if_pos ⟨rfl, by omega⟩]; exact decide_eq_false (by omega))]
    have hm1 : amA 7 f (p + 1) lim = none := by
      unfold amA
      by_cases hl : p + 1 < lim
      · rw [if_pos hl, am_7 _ (hfb (p + 1) (by omega)), if_neg (by omega)]
      · rw [if_neg hl]
    refine go_aload_n (i := 0) (pc := 0) dX12_readsAct_0 rfl rfl ?_
    refine go_geti fl_X12_340 (pc := 1) dX12_readsAct_1 (by rfl) ?_
    rw [h35]
    refine go_istore_n (i := 1) (pc := 4) dX12_readsAct_4 rfl (by decide) ?_
    refine go_aload_n (i := 0) (pc := 5) dX12_readsAct_5 rfl rfl ?_
    refine go_getr2 fl_X12_66 (pc := 6) dX12_readsAct_6 (by rfl) (by rfl) (by rfl) ?_
    refine go_iload_n (i := 1) (pc := 9) dX12_readsAct_9 rfl rfl ?_
    refine go_aload_n (i := 0) (pc := 10) dX12_readsAct_10 rfl rfl ?_
    refine go_ldcwS 6 rfl rfl (pc := 11) dX12_readsAct_11 ?_
    refine go_callV ml_X12_172 mt_X12_takesOf (pc := 14) dX12_readsAct_14 (c_X12_takesOf (ti := 6) hK (by decide)) (by rfl) rfl (by rfl) (by decide) (by decide) rfl rfl (Nat.le_of_ble_eq_true rfl) (fun r σ' hp2 => ?_)
    obtain ⟨rfl, Ka, hFd⟩ := hp2
    dsimp only [zRet]
    rw [hsg] at Ka ⊢
    dsimp only [gM] at Ka ⊢
    have Ft1 := Fr9.rf.tr (hFd.mono (fs2 := [16, 35]) (js2 := [17, 18, 19]) (by simp) (by simp))
    have At1 : σ'.1 33 35 = (nI k) := by rw [hFd.2.1 _ (by decide)]; exact h35
    have Lt1 : ∀ j, j < k → σ'.2.1 33 17 j = σ.2.1 33 17 j ∧ σ'.2.1 33 18 j = σ.2.1 33 18 j ∧ σ'.2.1 33 19 j = σ.2.1 33 19 j := fun j hj => by rw [hFd.2.2.1 17 (by decide), hFd.2.2.1 18 (by decide), hFd.2.2.1 19 (by decide)]; exact L00 j hj
    generalize σ' = t1 at Ft1 At1 Lt1 Ka ⊢
    refine go_iastore k (pc := 17) dX12_readsAct_17 rfl rfl rfl (by omega) ?_
    have Ft2 : Fr9 [16, 35] [17, 18, 19] σ (uA t1 33 17 (upd (t1.2.1 33 17) k (nI 1))) := Ft1.uA (by simp)
    have Kt2 : Cur (uA t1 33 17 (upd (t1.2.1 33 17) k (nI 1))) f _ lim := Ka.fr (fs := []) (js := [17]) (Fr9.rf.uA (by simp)) (by decide) (by decide) (by decide)
    have At2 : (uA t1 33 17 (upd (t1.2.1 33 17) k (nI 1))).1 33 35 = (nI k) := At1
    have Lt2 : ∀ j, j < k → (uA t1 33 17 (upd (t1.2.1 33 17) k (nI 1))).2.1 33 17 j = σ.2.1 33 17 j ∧ (uA t1 33 17 (upd (t1.2.1 33 17) k (nI 1))).2.1 33 18 j = σ.2.1 33 18 j ∧ (uA t1 33 17 (upd (t1.2.1 33 17) k (nI 1))).2.1 33 19 j = σ.2.1 33 19 j := fun j hj => by
      have h := Lt1 j hj
      refine ⟨?_, ?_, ?_⟩
      · rw [uA_2]; first | (rw [if_neg (by decide)]; exact h.1) | (rw [if_pos (by decide), upd_at, if_neg (by omega)]; exact h.1)
      · rw [uA_2]; first | (rw [if_neg (by decide)]; exact h.2.1) | (rw [if_pos (by decide), upd_at, if_neg (by omega)]; exact h.2.1)
      · rw [uA_2]; first | (rw [if_neg (by decide)]; exact h.2.2) | (rw [if_pos (by decide), upd_at, if_neg (by omega)]; exact h.2.2)
    have R17t2 : (uA t1 33 17 (upd (t1.2.1 33 17) k (nI 1))).2.1 33 17 k = (nI 1) := by rw [uA_s, upd_at, if_pos rfl]
    generalize (uA t1 33 17 (upd (t1.2.1 33 17) k (nI 1))) = t2 at Ft2 Kt2 At2 Lt2 R17t2 ⊢
    refine go_aload_n (i := 0) (pc := 18) dX12_readsAct_18 rfl rfl ?_
    refine go_dup (pc := 19) dX12_readsAct_19 rfl ?_
    refine go_geti fl_X12_340 (pc := 20) dX12_readsAct_20 (by rfl) ?_
    rw [At2]
    refine go_iconst (nI 1) (pc := 23) dX12_readsAct_23 (by decide) ?_
    first | with_reducible refine go_iaddN (pc := 24) dX12_readsAct_24 ?_ | refine go_iadd (pc := 24) dX12_readsAct_24 ?_
    refine go_puti fp_X12_340 (pc := 25) dX12_readsAct_25 (by rfl) rfl rfl ?_
    have Ft3 : Fr9 [16, 35] [17, 18, 19] σ (uS t2 33 35 (nI (k + 1))) := Ft2.uS (by simp)
    have Kt3 : Cur (uS t2 33 35 (nI (k + 1))) f _ lim := Kt2.fr (fs := [35]) (js := []) (Fr9.rf.uS (by simp)) (by decide) (by decide) (by decide)
    have At3 : (uS t2 33 35 (nI (k + 1))).1 33 35 = (nI (k + 1)) := uS_s _ _ _ _
    have Lt3 : ∀ j, j < k → (uS t2 33 35 (nI (k + 1))).2.1 33 17 j = σ.2.1 33 17 j ∧ (uS t2 33 35 (nI (k + 1))).2.1 33 18 j = σ.2.1 33 18 j ∧ (uS t2 33 35 (nI (k + 1))).2.1 33 19 j = σ.2.1 33 19 j := Lt2
    have R17t3 : (uS t2 33 35 (nI (k + 1))).2.1 33 17 k = (nI 1) := R17t2
    generalize (uS t2 33 35 (nI (k + 1))) = t3 at Ft3 Kt3 At3 Lt3 R17t3 ⊢
    refine go_aload_n (i := 0) (pc := 28) dX12_readsAct_28 rfl rfl ?_
    refine go_getr2 fl_X12_66 (pc := 29) dX12_readsAct_29 (by rfl) (by rfl) (by rfl) ?_
    refine go_iload_n (i := 1) (pc := 32) dX12_readsAct_32 rfl rfl ?_
    refine go_iaload _ (pc := 33) dX12_readsAct_33 (by first | rfl | (apply zM_ar <;> assumption)) (by first | rfl | (apply zM_jn <;> assumption)) rfl (by first | assumption | omega) ?_
    rw [R17t3]
    refine go_tableIn 98 (off := 64) (pc := 34) dX12_readsAct_34 (by decide) (by decide) (by decide) (by decide) ?_
    refine go_aload_n (i := 0) (pc := 98) dX12_readsAct_98 rfl rfl ?_
    refine go_getr2 fl_X12_69 (pc := 99) dX12_readsAct_99 (by rfl) (by rfl) (by rfl) ?_
    refine go_iload_n (i := 1) (pc := 102) dX12_readsAct_102 rfl rfl ?_
    refine go_aload_n (i := 0) (pc := 103) dX12_readsAct_103 rfl rfl ?_
    refine go_ldcwS 7 rfl rfl (pc := 104) dX12_readsAct_104 ?_
    refine go_callV ml_X12_172 mt_X12_takesOf (pc := 107) dX12_readsAct_107 (c_X12_takesOf (ti := 7) Kt3 (by decide)) (by rfl) rfl (by rfl) (by decide) (by decide) rfl rfl (Nat.le_of_ble_eq_true rfl) (fun r σ' hp2 => ?_)
    obtain ⟨rfl, Kb, hFe⟩ := hp2
    dsimp only [zRet]
    rw [hm1] at Kb ⊢
    dsimp only [gM] at Kb ⊢
    have Ft4 := Ft3.tr (hFe.mono (fs2 := [16, 35]) (js2 := [17, 18, 19]) (by simp) (by simp))
    have At4 : σ'.1 33 35 = (nI (k + 1)) := by rw [hFe.2.1 _ (by decide)]; exact At3
    have Lt4 : ∀ j, j < k → σ'.2.1 33 17 j = σ.2.1 33 17 j ∧ σ'.2.1 33 18 j = σ.2.1 33 18 j ∧ σ'.2.1 33 19 j = σ.2.1 33 19 j := fun j hj => by rw [hFe.2.2.1 17 (by decide), hFe.2.2.1 18 (by decide), hFe.2.2.1 19 (by decide)]; exact Lt3 j hj
    have R17t4 : σ'.2.1 33 17 k = (nI 1) := by rw [hFe.2.2.1 17 (by decide)]; exact R17t3
    generalize σ' = t4 at Ft4 At4 Lt4 Kb R17t4 ⊢
    refine go_iastore k (pc := 110) dX12_readsAct_110 rfl rfl rfl (by omega) ?_
    have Ft5 : Fr9 [16, 35] [17, 18, 19] σ (uA t4 33 18 (upd (t4.2.1 33 18) k (-1))) := Ft4.uA (by simp)
    have Kt5 : Cur (uA t4 33 18 (upd (t4.2.1 33 18) k (-1))) f _ lim := Kb.fr (fs := []) (js := [18]) (Fr9.rf.uA (by simp)) (by decide) (by decide) (by decide)
    have At5 : (uA t4 33 18 (upd (t4.2.1 33 18) k (-1))).1 33 35 = (nI (k + 1)) := At4
    have Lt5 : ∀ j, j < k → (uA t4 33 18 (upd (t4.2.1 33 18) k (-1))).2.1 33 17 j = σ.2.1 33 17 j ∧ (uA t4 33 18 (upd (t4.2.1 33 18) k (-1))).2.1 33 18 j = σ.2.1 33 18 j ∧ (uA t4 33 18 (upd (t4.2.1 33 18) k (-1))).2.1 33 19 j = σ.2.1 33 19 j := fun j hj => by
      have h := Lt4 j hj
      refine ⟨?_, ?_, ?_⟩
      · rw [uA_2]; first | (rw [if_neg (by decide)]; exact h.1) | (rw [if_pos (by decide), upd_at, if_neg (by omega)]; exact h.1)
      · rw [uA_2]; first | (rw [if_neg (by decide)]; exact h.2.1) | (rw [if_pos (by decide), upd_at, if_neg (by omega)]; exact h.2.1)
      · rw [uA_2]; first | (rw [if_neg (by decide)]; exact h.2.2) | (rw [if_pos (by decide), upd_at, if_neg (by omega)]; exact h.2.2)
    have R17t5 : (uA t4 33 18 (upd (t4.2.1 33 18) k (-1))).2.1 33 17 k = (nI 1) := by rw [uA_2, if_neg (by decide)]; exact R17t4
    have R18t5 : (uA t4 33 18 (upd (t4.2.1 33 18) k (-1))).2.1 33 18 k = (-1) := by rw [uA_s, upd_at, if_pos rfl]
    generalize (uA t4 33 18 (upd (t4.2.1 33 18) k (-1))) = t5 at Ft5 Kt5 At5 Lt5 R17t5 R18t5 ⊢
    refine go_aload_n (i := 0) (pc := 111) dX12_readsAct_111 rfl rfl ?_
    refine go_getr2 fl_X12_72 (pc := 112) dX12_readsAct_112 (by rfl) (by rfl) (by rfl) ?_
    refine go_iload_n (i := 1) (pc := 115) dX12_readsAct_115 rfl rfl ?_
    refine go_aload_n (i := 0) (pc := 116) dX12_readsAct_116 rfl rfl ?_
    refine go_getr2 fl_X12_69 (pc := 117) dX12_readsAct_117 (by rfl) (by rfl) (by rfl) ?_
    refine go_iload_n (i := 1) (pc := 120) dX12_readsAct_120 rfl rfl ?_
    refine go_iaload _ (pc := 121) dX12_readsAct_121 (by first | rfl | (apply zM_ar <;> assumption)) (by first | rfl | (apply zM_jn <;> assumption)) rfl (by first | assumption | omega) ?_
    rw [R18t5]
    refine go_if_ge 129 (pc := 122) dX12_readsAct_122 (by decide) (fun h122 => ?_) (fun h122 => ?_)
    · exact absurd h122 (by decide)
    · refine go_iconst (-1) (pc := 125) dX12_readsAct_125 (by decide) ?_
      refine go_goto 143 (pc := 126) dX12_readsAct_126 (by decide) ?_
      refine go_iastore k (pc := 143) dX12_readsAct_143 rfl rfl rfl (by omega) ?_
      have Ft6 : Fr9 [16, 35] [17, 18, 19] σ (uA t5 33 19 (upd (t5.2.1 33 19) k (-1))) := Ft5.uA (by simp)
      have Kt6 : Cur (uA t5 33 19 (upd (t5.2.1 33 19) k (-1))) f _ lim := Kt5.fr (fs := []) (js := [19]) (Fr9.rf.uA (by simp)) (by decide) (by decide) (by decide)
      have At6 : (uA t5 33 19 (upd (t5.2.1 33 19) k (-1))).1 33 35 = (nI (k + 1)) := At5
      have Lt6 : ∀ j, j < k → (uA t5 33 19 (upd (t5.2.1 33 19) k (-1))).2.1 33 17 j = σ.2.1 33 17 j ∧ (uA t5 33 19 (upd (t5.2.1 33 19) k (-1))).2.1 33 18 j = σ.2.1 33 18 j ∧ (uA t5 33 19 (upd (t5.2.1 33 19) k (-1))).2.1 33 19 j = σ.2.1 33 19 j := fun j hj => by
        have h := Lt5 j hj
        refine ⟨?_, ?_, ?_⟩
        · rw [uA_2]; first | (rw [if_neg (by decide)]; exact h.1) | (rw [if_pos (by decide), upd_at, if_neg (by omega)]; exact h.1)
        · rw [uA_2]; first | (rw [if_neg (by decide)]; exact h.2.1) | (rw [if_pos (by decide), upd_at, if_neg (by omega)]; exact h.2.1)
        · rw [uA_2]; first | (rw [if_neg (by decide)]; exact h.2.2) | (rw [if_pos (by decide), upd_at, if_neg (by omega)]; exact h.2.2)
      have R17t6 : (uA t5 33 19 (upd (t5.2.1 33 19) k (-1))).2.1 33 17 k = (nI 1) := by rw [uA_2, if_neg (by decide)]; exact R17t5
      have R18t6 : (uA t5 33 19 (upd (t5.2.1 33 19) k (-1))).2.1 33 18 k = (-1) := by rw [uA_2, if_neg (by decide)]; exact R18t5
      have R19t6 : (uA t5 33 19 (upd (t5.2.1 33 19) k (-1))).2.1 33 19 k = (-1) := by rw [uA_s, upd_at, if_pos rfl]
      generalize (uA t5 33 19 (upd (t5.2.1 33 19) k (-1))) = t6 at Ft6 Kt6 At6 Lt6 R17t6 R18t6 R19t6 ⊢
      refine go_aload_n (i := 0) (pc := 144) dX12_readsAct_144 rfl rfl ?_
      refine go_getr2 fl_X12_72 (pc := 145) dX12_readsAct_145 (by rfl) (by rfl) (by rfl) ?_
      refine go_iload_n (i := 1) (pc := 148) dX12_readsAct_148 rfl rfl ?_
      refine go_iaload _ (pc := 149) dX12_readsAct_149 (by first | rfl | (apply zM_ar <;> assumption)) (by first | rfl | (apply zM_jn <;> assumption)) rfl (by first | assumption | omega) ?_
      rw [R19t6]
      refine go_if_lt 157 (pc := 150) dX12_readsAct_150 (by decide) (fun h150 => ?_) (fun h150 => ?_)
      · refine go_iconst (nI 0) (pc := 157) dX12_readsAct_157 (by decide) ?_
        refine go_zreturn (pc := 158) dX12_readsAct_158 rfl rfl ?_
        rw [ec]
        exact ⟨rfl, Kt6, fun h => (by cases h), Lt6, Ft6⟩
      · exact absurd (by decide) h150

theorem c_readsAct2 {E : zE} {σ : zT} {f : Nat → Nat} {p lim k : Nat} (hK : Cur σ f p lim) (hp : p < lim) (h35 : σ.1 33 35 = nI k) (hk : k < 60) (hfp : f p = 112) : CalM E 6 yX12_readsAct cX12_readsAct 2 (some .boolean) [.ref (zA E 33 0)] σ (fun r σ' => r = some (.int (zb (aOne f lim p).1)) ∧ Cur σ' f (aOne f lim p).2 lim ∧ ((aOne f lim p).1 = true → σ'.1 33 35 = nI (k + 1) ∧ ActIs σ' f k p) ∧ (∀ j, j < k → σ'.2.1 33 17 j = σ.2.1 33 17 j ∧ σ'.2.1 33 18 j = σ.2.1 33 18 j ∧ σ'.2.1 33 19 j = σ.2.1 33 19 j) ∧ Fr9 [16, 35] [17, 18, 19] σ σ') := by
  refine cal_of_go (own := RX12) rfl (by decide +kernel) (Nat.le_of_ble_eq_true rfl) ?_
  have hfb := fun i (h : i < 80) => (hK.2.2.2.2 i h).2
  have hl80 := hK.2.2.2.1
  have hfp0 := hfb p (by omega)
  have L00 : ∀ j, j < k → σ.2.1 33 17 j = σ.2.1 33 17 j ∧ σ.2.1 33 18 j = σ.2.1 33 18 j ∧ σ.2.1 33 19 j = σ.2.1 33 19 j := fun _ _ => ⟨rfl, rfl, rfl⟩
  have hsg : amA 6 f p lim = some 2 := by rw [amA_in hp, am_6 _ hfp0, hfp]; rfl
  have hal : aLen (f p) = 3 := by rw [hfp]; rfl
  by_cases h1 : p + 1 < lim ∧ 97 ≤ f (p + 1) ∧ f (p + 1) ≤ 108
  · have hf1 := hfb (p + 1) (by omega)
    have hm1 : amA 7 f (p + 1) lim = some (f (p + 1) - 97) := by
      rw [amA_in h1.1, am_7 _ (hfb (p + 1) (by omega)), if_pos h1.2]
    have e2 : f (p + 1 + 1) = f (p + 2) := rfl
    by_cases h2 : p + 1 + 1 < lim ∧ 48 + 1 ≤ f (p + 1 + 1) ∧ f (p + 1 + 1) ≤ 48 + 9
    · have hf2 := hfb (p + 2) (by omega)
      have ec : aOne f lim p = (true, p + 3) := by
        unfold aOne
        rw [if_neg (by rw [hal]; decide)]
        rw [if_neg (by omega)]
        rw [if_neg (show ¬ fAct (f p) 1 (f (p + 1)) = false by unfold fAct; rw [if_pos ⟨rfl, by omega⟩]; rw [decide_eq_true (by omega)]; decide)]
        rw [if_neg (by rw [hal]; decide), if_neg (by omega)]
        rw [if_neg (show ¬ fAct (f p) 2 (f (p + 2)) = false by unfold fAct; rw [if_neg (by omega)]; rw [decide_eq_true (show (48 ≤ f (p + 2) ∧ f (p + 2) ≤ 57) ∧ ¬ (f p = 112 ∧ f (p + 2) = 48) by omega)]; decide)]
      refine go_aload_n (i := 0) (pc := 0) dX12_readsAct_0 rfl rfl ?_
      refine go_geti fl_X12_340 (pc := 1) dX12_readsAct_1 (by rfl) ?_
      rw [h35]
      refine go_istore_n (i := 1) (pc := 4) dX12_readsAct_4 rfl (by decide) ?_
      refine go_aload_n (i := 0) (pc := 5) dX12_readsAct_5 rfl rfl ?_
      refine go_getr2 fl_X12_66 (pc := 6) dX12_readsAct_6 (by rfl) (by rfl) (by rfl) ?_
      refine go_iload_n (i := 1) (pc := 9) dX12_readsAct_9 rfl rfl ?_
      refine go_aload_n (i := 0) (pc := 10) dX12_readsAct_10 rfl rfl ?_
      refine go_ldcwS 6 rfl rfl (pc := 11) dX12_readsAct_11 ?_
      refine go_callV ml_X12_172 mt_X12_takesOf (pc := 14) dX12_readsAct_14 (c_X12_takesOf (ti := 6) hK (by decide)) (by rfl) rfl (by rfl) (by decide) (by decide) rfl rfl (Nat.le_of_ble_eq_true rfl) (fun r σ' hp2 => ?_)
      obtain ⟨rfl, Ka, hFd⟩ := hp2
      dsimp only [zRet]
      rw [hsg] at Ka ⊢
      dsimp only [gM] at Ka ⊢
      have Ft1 := Fr9.rf.tr (hFd.mono (fs2 := [16, 35]) (js2 := [17, 18, 19]) (by simp) (by simp))
      have At1 : σ'.1 33 35 = (nI k) := by rw [hFd.2.1 _ (by decide)]; exact h35
      have Lt1 : ∀ j, j < k → σ'.2.1 33 17 j = σ.2.1 33 17 j ∧ σ'.2.1 33 18 j = σ.2.1 33 18 j ∧ σ'.2.1 33 19 j = σ.2.1 33 19 j := fun j hj => by rw [hFd.2.2.1 17 (by decide), hFd.2.2.1 18 (by decide), hFd.2.2.1 19 (by decide)]; exact L00 j hj
      generalize σ' = t1 at Ft1 At1 Lt1 Ka ⊢
      refine go_iastore k (pc := 17) dX12_readsAct_17 rfl rfl rfl (by omega) ?_
      have Ft2 : Fr9 [16, 35] [17, 18, 19] σ (uA t1 33 17 (upd (t1.2.1 33 17) k (nI 2))) := Ft1.uA (by simp)
      have Kt2 : Cur (uA t1 33 17 (upd (t1.2.1 33 17) k (nI 2))) f _ lim := Ka.fr (fs := []) (js := [17]) (Fr9.rf.uA (by simp)) (by decide) (by decide) (by decide)
      have At2 : (uA t1 33 17 (upd (t1.2.1 33 17) k (nI 2))).1 33 35 = (nI k) := At1
      have Lt2 : ∀ j, j < k → (uA t1 33 17 (upd (t1.2.1 33 17) k (nI 2))).2.1 33 17 j = σ.2.1 33 17 j ∧ (uA t1 33 17 (upd (t1.2.1 33 17) k (nI 2))).2.1 33 18 j = σ.2.1 33 18 j ∧ (uA t1 33 17 (upd (t1.2.1 33 17) k (nI 2))).2.1 33 19 j = σ.2.1 33 19 j := fun j hj => by
        have h := Lt1 j hj
        refine ⟨?_, ?_, ?_⟩
        · rw [uA_2]; first | (rw [if_neg (by decide)]; exact h.1) | (rw [if_pos (by decide), upd_at, if_neg (by omega)]; exact h.1)
        · rw [uA_2]; first | (rw [if_neg (by decide)]; exact h.2.1) | (rw [if_pos (by decide), upd_at, if_neg (by omega)]; exact h.2.1)
        · rw [uA_2]; first | (rw [if_neg (by decide)]; exact h.2.2) | (rw [if_pos (by decide), upd_at, if_neg (by omega)]; exact h.2.2)
      have R17t2 : (uA t1 33 17 (upd (t1.2.1 33 17) k (nI 2))).2.1 33 17 k = (nI 2) := by rw [uA_s, upd_at, if_pos rfl]
      generalize (uA t1 33 17 (upd (t1.2.1 33 17) k (nI 2))) = t2 at Ft2 Kt2 At2 Lt2 R17t2 ⊢
      refine go_aload_n (i := 0) (pc := 18) dX12_readsAct_18 rfl rfl ?_
      refine go_dup (pc := 19) dX12_readsAct_19 rfl ?_
      refine go_geti fl_X12_340 (pc := 20) dX12_readsAct_20 (by rfl) ?_
      rw [At2]
      refine go_iconst (nI 1) (pc := 23) dX12_readsAct_23 (by decide) ?_
      first | with_reducible refine go_iaddN (pc := 24) dX12_readsAct_24 ?_ | refine go_iadd (pc := 24) dX12_readsAct_24 ?_
      refine go_puti fp_X12_340 (pc := 25) dX12_readsAct_25 (by rfl) rfl rfl ?_
      have Ft3 : Fr9 [16, 35] [17, 18, 19] σ (uS t2 33 35 (nI (k + 1))) := Ft2.uS (by simp)
      have Kt3 : Cur (uS t2 33 35 (nI (k + 1))) f _ lim := Kt2.fr (fs := [35]) (js := []) (Fr9.rf.uS (by simp)) (by decide) (by decide) (by decide)
      have At3 : (uS t2 33 35 (nI (k + 1))).1 33 35 = (nI (k + 1)) := uS_s _ _ _ _
      have Lt3 : ∀ j, j < k → (uS t2 33 35 (nI (k + 1))).2.1 33 17 j = σ.2.1 33 17 j ∧ (uS t2 33 35 (nI (k + 1))).2.1 33 18 j = σ.2.1 33 18 j ∧ (uS t2 33 35 (nI (k + 1))).2.1 33 19 j = σ.2.1 33 19 j := Lt2
      have R17t3 : (uS t2 33 35 (nI (k + 1))).2.1 33 17 k = (nI 2) := R17t2
      generalize (uS t2 33 35 (nI (k + 1))) = t3 at Ft3 Kt3 At3 Lt3 R17t3 ⊢
      refine go_aload_n (i := 0) (pc := 28) dX12_readsAct_28 rfl rfl ?_
      refine go_getr2 fl_X12_66 (pc := 29) dX12_readsAct_29 (by rfl) (by rfl) (by rfl) ?_
      refine go_iload_n (i := 1) (pc := 32) dX12_readsAct_32 rfl rfl ?_
      refine go_iaload _ (pc := 33) dX12_readsAct_33 (by first | rfl | (apply zM_ar <;> assumption)) (by first | rfl | (apply zM_jn <;> assumption)) rfl (by first | assumption | omega) ?_
      rw [R17t3]
      refine go_tableIn 98 (off := 64) (pc := 34) dX12_readsAct_34 (by decide) (by decide) (by decide) (by decide) ?_
      refine go_aload_n (i := 0) (pc := 98) dX12_readsAct_98 rfl rfl ?_
      refine go_getr2 fl_X12_69 (pc := 99) dX12_readsAct_99 (by rfl) (by rfl) (by rfl) ?_
      refine go_iload_n (i := 1) (pc := 102) dX12_readsAct_102 rfl rfl ?_
      refine go_aload_n (i := 0) (pc := 103) dX12_readsAct_103 rfl rfl ?_
      refine go_ldcwS 7 rfl rfl (pc := 104) dX12_readsAct_104 ?_
      refine go_callV ml_X12_172 mt_X12_takesOf (pc := 107) dX12_readsAct_107 (c_X12_takesOf (ti := 7) Kt3 (by decide)) (by rfl) rfl (by rfl) (by decide) (by decide) rfl rfl (Nat.le_of_ble_eq_true rfl) (fun r σ' hp2 => ?_)
      obtain ⟨rfl, Kb, hFe⟩ := hp2
      dsimp only [zRet]
      rw [hm1] at Kb ⊢
      dsimp only [gM] at Kb ⊢
      have Ft4 := Ft3.tr (hFe.mono (fs2 := [16, 35]) (js2 := [17, 18, 19]) (by simp) (by simp))
      have At4 : σ'.1 33 35 = (nI (k + 1)) := by rw [hFe.2.1 _ (by decide)]; exact At3
      have Lt4 : ∀ j, j < k → σ'.2.1 33 17 j = σ.2.1 33 17 j ∧ σ'.2.1 33 18 j = σ.2.1 33 18 j ∧ σ'.2.1 33 19 j = σ.2.1 33 19 j := fun j hj => by rw [hFe.2.2.1 17 (by decide), hFe.2.2.1 18 (by decide), hFe.2.2.1 19 (by decide)]; exact Lt3 j hj
      have R17t4 : σ'.2.1 33 17 k = (nI 2) := by rw [hFe.2.2.1 17 (by decide)]; exact R17t3
      generalize σ' = t4 at Ft4 At4 Lt4 Kb R17t4 ⊢
      refine go_iastore k (pc := 110) dX12_readsAct_110 rfl rfl rfl (by omega) ?_
      have Ft5 : Fr9 [16, 35] [17, 18, 19] σ (uA t4 33 18 (upd (t4.2.1 33 18) k (nI (f (p + 1) - 97)))) := Ft4.uA (by simp)
      have Kt5 : Cur (uA t4 33 18 (upd (t4.2.1 33 18) k (nI (f (p + 1) - 97)))) f _ lim := Kb.fr (fs := []) (js := [18]) (Fr9.rf.uA (by simp)) (by decide) (by decide) (by decide)
      have At5 : (uA t4 33 18 (upd (t4.2.1 33 18) k (nI (f (p + 1) - 97)))).1 33 35 = (nI (k + 1)) := At4
      have Lt5 : ∀ j, j < k → (uA t4 33 18 (upd (t4.2.1 33 18) k (nI (f (p + 1) - 97)))).2.1 33 17 j = σ.2.1 33 17 j ∧ (uA t4 33 18 (upd (t4.2.1 33 18) k (nI (f (p + 1) - 97)))).2.1 33 18 j = σ.2.1 33 18 j ∧ (uA t4 33 18 (upd (t4.2.1 33 18) k (nI (f (p + 1) - 97)))).2.1 33 19 j = σ.2.1 33 19 j := fun j hj => by
        have h := Lt4 j hj
        refine ⟨?_, ?_, ?_⟩
        · rw [uA_2]; first | (rw [if_neg (by decide)]; exact h.1) | (rw [if_pos (by decide), upd_at, if_neg (by omega)]; exact h.1)
        · rw [uA_2]; first | (rw [if_neg (by decide)]; exact h.2.1) | (rw [if_pos (by decide), upd_at, if_neg (by omega)]; exact h.2.1)
        · rw [uA_2]; first | (rw [if_neg (by decide)]; exact h.2.2) | (rw [if_pos (by decide), upd_at, if_neg (by omega)]; exact h.2.2)
      have R17t5 : (uA t4 33 18 (upd (t4.2.1 33 18) k (nI (f (p + 1) - 97)))).2.1 33 17 k = (nI 2) := by rw [uA_2, if_neg (by decide)]; exact R17t4
      have R18t5 : (uA t4 33 18 (upd (t4.2.1 33 18) k (nI (f (p + 1) - 97)))).2.1 33 18 k = (nI (f (p + 1) - 97)) := by rw [uA_s, upd_at, if_pos rfl]
      generalize (uA t4 33 18 (upd (t4.2.1 33 18) k (nI (f (p + 1) - 97)))) = t5 at Ft5 Kt5 At5 Lt5 R17t5 R18t5 ⊢
      refine go_aload_n (i := 0) (pc := 111) dX12_readsAct_111 rfl rfl ?_
      refine go_getr2 fl_X12_72 (pc := 112) dX12_readsAct_112 (by rfl) (by rfl) (by rfl) ?_
      refine go_iload_n (i := 1) (pc := 115) dX12_readsAct_115 rfl rfl ?_
      refine go_aload_n (i := 0) (pc := 116) dX12_readsAct_116 rfl rfl ?_
      refine go_getr2 fl_X12_69 (pc := 117) dX12_readsAct_117 (by rfl) (by rfl) (by rfl) ?_
      refine go_iload_n (i := 1) (pc := 120) dX12_readsAct_120 rfl rfl ?_
      refine go_iaload _ (pc := 121) dX12_readsAct_121 (by first | rfl | (apply zM_ar <;> assumption)) (by first | rfl | (apply zM_jn <;> assumption)) rfl (by first | assumption | omega) ?_
      rw [R18t5]
      refine go_if_ge 129 (pc := 122) dX12_readsAct_122 (by decide) (fun h122 => ?_) (fun h122 => ?_)
      · refine go_aload_n (i := 0) (pc := 129) dX12_readsAct_129 rfl rfl ?_
        refine go_aload_n (i := 0) (pc := 130) dX12_readsAct_130 rfl rfl ?_
        refine go_getr2 fl_X12_66 (pc := 131) dX12_readsAct_131 (by rfl) (by rfl) (by rfl) ?_
        refine go_iload_n (i := 1) (pc := 134) dX12_readsAct_134 rfl rfl ?_
        refine go_iaload _ (pc := 135) dX12_readsAct_135 (by first | rfl | (apply zM_ar <;> assumption)) (by first | rfl | (apply zM_jn <;> assumption)) rfl (by first | assumption | omega) ?_
        rw [R17t5]
        refine go_iconst (nI 1) (pc := 136) dX12_readsAct_136 (by decide) ?_
        refine go_isubN (pc := 137) dX12_readsAct_137 (by decide) ?_
        refine go_bipush (nI 9) (pc := 138) dX12_readsAct_138 (by decide) ?_
        refine go_callV ml_X12_186 mt_X12_digitIn (pc := 140) dX12_readsAct_140 (c_X12_digitIn (lo := 1) (hi := 9) Kt5 (by decide) (by decide)) (by rfl) rfl (by rfl) (by decide) (by decide) rfl rfl (Nat.le_of_ble_eq_true rfl) (fun r σ' hp2 => ?_)
        obtain ⟨rfl, Kc, hFg⟩ := hp2
        dsimp only [zRet]
        rw [if_pos h2] at Kc ⊢
        have Ft6 := Ft5.tr (hFg.mono (fs2 := [16, 35]) (js2 := [17, 18, 19]) (by simp) (by simp))
        have At6 : σ'.1 33 35 = (nI (k + 1)) := by rw [hFg.2.1 _ (by decide)]; exact At5
        have Lt6 : ∀ j, j < k → σ'.2.1 33 17 j = σ.2.1 33 17 j ∧ σ'.2.1 33 18 j = σ.2.1 33 18 j ∧ σ'.2.1 33 19 j = σ.2.1 33 19 j := fun j hj => by rw [hFg.2.2.1 17 (by decide), hFg.2.2.1 18 (by decide), hFg.2.2.1 19 (by decide)]; exact Lt5 j hj
        have R17t6 : σ'.2.1 33 17 k = (nI 2) := by rw [hFg.2.2.1 17 (by decide)]; exact R17t5
        have R18t6 : σ'.2.1 33 18 k = (nI (f (p + 1) - 97)) := by rw [hFg.2.2.1 18 (by decide)]; exact R18t5
        generalize σ' = t6 at Ft6 At6 Lt6 Kc R17t6 R18t6 ⊢
        refine go_iastore k (pc := 143) dX12_readsAct_143 rfl rfl rfl (by omega) ?_
        have Ft7 : Fr9 [16, 35] [17, 18, 19] σ (uA t6 33 19 (upd (t6.2.1 33 19) k (nI (f (p + 2) - 48)))) := Ft6.uA (by simp)
        have Kt7 : Cur (uA t6 33 19 (upd (t6.2.1 33 19) k (nI (f (p + 2) - 48)))) f _ lim := Kc.fr (fs := []) (js := [19]) (Fr9.rf.uA (by simp)) (by decide) (by decide) (by decide)
        have At7 : (uA t6 33 19 (upd (t6.2.1 33 19) k (nI (f (p + 2) - 48)))).1 33 35 = (nI (k + 1)) := At6
        have Lt7 : ∀ j, j < k → (uA t6 33 19 (upd (t6.2.1 33 19) k (nI (f (p + 2) - 48)))).2.1 33 17 j = σ.2.1 33 17 j ∧ (uA t6 33 19 (upd (t6.2.1 33 19) k (nI (f (p + 2) - 48)))).2.1 33 18 j = σ.2.1 33 18 j ∧ (uA t6 33 19 (upd (t6.2.1 33 19) k (nI (f (p + 2) - 48)))).2.1 33 19 j = σ.2.1 33 19 j := fun j hj => by
          have h := Lt6 j hj
          refine ⟨?_, ?_, ?_⟩
          · rw [uA_2]; first | (rw [if_neg (by decide)]; exact h.1) | (rw [if_pos (by decide), upd_at, if_neg (by omega)]; exact h.1)
          · rw [uA_2]; first | (rw [if_neg (by decide)]; exact h.2.1) | (rw [if_pos (by decide), upd_at, if_neg (by omega)]; exact h.2.1)
          · rw [uA_2]; first | (rw [if_neg (by decide)]; exact h.2.2) | (rw [if_pos (by decide), upd_at, if_neg (by omega)]; exact h.2.2)
        have R17t7 : (uA t6 33 19 (upd (t6.2.1 33 19) k (nI (f (p + 2) - 48)))).2.1 33 17 k = (nI 2) := by rw [uA_2, if_neg (by decide)]; exact R17t6
        have R18t7 : (uA t6 33 19 (upd (t6.2.1 33 19) k (nI (f (p + 2) - 48)))).2.1 33 18 k = (nI (f (p + 1) - 97)) := by rw [uA_2, if_neg (by decide)]; exact R18t6
        have R19t7 : (uA t6 33 19 (upd (t6.2.1 33 19) k (nI (f (p + 2) - 48)))).2.1 33 19 k = (nI (f (p + 2) - 48)) := by rw [uA_s, upd_at, if_pos rfl]
        generalize (uA t6 33 19 (upd (t6.2.1 33 19) k (nI (f (p + 2) - 48)))) = t7 at Ft7 Kt7 At7 Lt7 R17t7 R18t7 R19t7 ⊢
        refine go_aload_n (i := 0) (pc := 144) dX12_readsAct_144 rfl rfl ?_
        refine go_getr2 fl_X12_72 (pc := 145) dX12_readsAct_145 (by rfl) (by rfl) (by rfl) ?_
        refine go_iload_n (i := 1) (pc := 148) dX12_readsAct_148 rfl rfl ?_
        refine go_iaload _ (pc := 149) dX12_readsAct_149 (by first | rfl | (apply zM_ar <;> assumption)) (by first | rfl | (apply zM_jn <;> assumption)) rfl (by first | assumption | omega) ?_
        rw [R19t7]
        refine go_if_lt 157 (pc := 150) dX12_readsAct_150 (by decide) (fun h150 => ?_) (fun h150 => ?_)
        · exact absurd h150 (nI_pos (by omega))
        · refine go_iconst (nI 1) (pc := 153) dX12_readsAct_153 (by decide) ?_
          refine go_goto 158 (pc := 154) dX12_readsAct_154 (by decide) ?_
          refine go_zreturn (pc := 158) dX12_readsAct_158 rfl rfl ?_
          rw [ec]
          exact ⟨rfl, Kt7, fun _ => ⟨At7, by rw [R17t7, hfp]; rfl, by rw [R18t7]; unfold aV1; rw [hfp]; rfl, fun h => R19t7⟩, Lt7, Ft7⟩
      · exact absurd (nI_pos' (by omega)) h122
    · skip
      have ec : aOne f lim p = (false, p + 2) := by
        unfold aOne
        rw [if_neg (by rw [hal]; decide)]
        rw [if_neg (by omega)]
        rw [if_neg (show ¬ fAct (f p) 1 (f (p + 1)) = false by unfold fAct; rw [if_pos ⟨rfl, by omega⟩]; rw [decide_eq_true (by omega)]; decide)]
        rw [if_neg (by rw [hal]; decide)]
        by_cases hl : lim ≤ p + 2
        · rw [if_pos hl, show lim = p + 2 by omega]
        · rw [if_neg hl, if_pos (show fAct (f p) 2 (f (p + 2)) = false by unfold fAct; rw [if_neg (by omega)]; exact decide_eq_false (by omega))]
      refine go_aload_n (i := 0) (pc := 0) dX12_readsAct_0 rfl rfl ?_
      refine go_geti fl_X12_340 (pc := 1) dX12_readsAct_1 (by rfl) ?_
      rw [h35]
      refine go_istore_n (i := 1) (pc := 4) dX12_readsAct_4 rfl (by decide) ?_
      refine go_aload_n (i := 0) (pc := 5) dX12_readsAct_5 rfl rfl ?_
      refine go_getr2 fl_X12_66 (pc := 6) dX12_readsAct_6 (by rfl) (by rfl) (by rfl) ?_
      refine go_iload_n (i := 1) (pc := 9) dX12_readsAct_9 rfl rfl ?_
      refine go_aload_n (i := 0) (pc := 10) dX12_readsAct_10 rfl rfl ?_
      refine go_ldcwS 6 rfl rfl (pc := 11) dX12_readsAct_11 ?_
      refine go_callV ml_X12_172 mt_X12_takesOf (pc := 14) dX12_readsAct_14 (c_X12_takesOf (ti := 6) hK (by decide)) (by rfl) rfl (by rfl) (by decide) (by decide) rfl rfl (Nat.le_of_ble_eq_true rfl) (fun r σ' hp2 => ?_)
      obtain ⟨rfl, Ka, hFd⟩ := hp2
      dsimp only [zRet]
      rw [hsg] at Ka ⊢
      dsimp only [gM] at Ka ⊢
      have Ft1 := Fr9.rf.tr (hFd.mono (fs2 := [16, 35]) (js2 := [17, 18, 19]) (by simp) (by simp))
      have At1 : σ'.1 33 35 = (nI k) := by rw [hFd.2.1 _ (by decide)]; exact h35
      have Lt1 : ∀ j, j < k → σ'.2.1 33 17 j = σ.2.1 33 17 j ∧ σ'.2.1 33 18 j = σ.2.1 33 18 j ∧ σ'.2.1 33 19 j = σ.2.1 33 19 j := fun j hj => by rw [hFd.2.2.1 17 (by decide), hFd.2.2.1 18 (by decide), hFd.2.2.1 19 (by decide)]; exact L00 j hj
      generalize σ' = t1 at Ft1 At1 Lt1 Ka ⊢
      refine go_iastore k (pc := 17) dX12_readsAct_17 rfl rfl rfl (by omega) ?_
      have Ft2 : Fr9 [16, 35] [17, 18, 19] σ (uA t1 33 17 (upd (t1.2.1 33 17) k (nI 2))) := Ft1.uA (by simp)
      have Kt2 : Cur (uA t1 33 17 (upd (t1.2.1 33 17) k (nI 2))) f _ lim := Ka.fr (fs := []) (js := [17]) (Fr9.rf.uA (by simp)) (by decide) (by decide) (by decide)
      have At2 : (uA t1 33 17 (upd (t1.2.1 33 17) k (nI 2))).1 33 35 = (nI k) := At1
      have Lt2 : ∀ j, j < k → (uA t1 33 17 (upd (t1.2.1 33 17) k (nI 2))).2.1 33 17 j = σ.2.1 33 17 j ∧ (uA t1 33 17 (upd (t1.2.1 33 17) k (nI 2))).2.1 33 18 j = σ.2.1 33 18 j ∧ (uA t1 33 17 (upd (t1.2.1 33 17) k (nI 2))).2.1 33 19 j = σ.2.1 33 19 j := fun j hj => by
        have h := Lt1 j hj
        refine ⟨?_, ?_, ?_⟩
        · rw [uA_2]; first | (rw [if_neg (by decide)]; exact h.1) | (rw [if_pos (by decide), upd_at, if_neg (by omega)]; exact h.1)
        · rw [uA_2]; first | (rw [if_neg (by decide)]; exact h.2.1) | (rw [if_pos (by decide), upd_at, if_neg (by omega)]; exact h.2.1)
        · rw [uA_2]; first | (rw [if_neg (by decide)]; exact h.2.2) | (rw [if_pos (by decide), upd_at, if_neg (by omega)]; exact h.2.2)
      have R17t2 : (uA t1 33 17 (upd (t1.2.1 33 17) k (nI 2))).2.1 33 17 k = (nI 2) := by rw [uA_s, upd_at, if_pos rfl]
      generalize (uA t1 33 17 (upd (t1.2.1 33 17) k (nI 2))) = t2 at Ft2 Kt2 At2 Lt2 R17t2 ⊢
      refine go_aload_n (i := 0) (pc := 18) dX12_readsAct_18 rfl rfl ?_
      refine go_dup (pc := 19) dX12_readsAct_19 rfl ?_
      refine go_geti fl_X12_340 (pc := 20) dX12_readsAct_20 (by rfl) ?_
      rw [At2]
      refine go_iconst (nI 1) (pc := 23) dX12_readsAct_23 (by decide) ?_
      first | with_reducible refine go_iaddN (pc := 24) dX12_readsAct_24 ?_ | refine go_iadd (pc := 24) dX12_readsAct_24 ?_
      refine go_puti fp_X12_340 (pc := 25) dX12_readsAct_25 (by rfl) rfl rfl ?_
      have Ft3 : Fr9 [16, 35] [17, 18, 19] σ (uS t2 33 35 (nI (k + 1))) := Ft2.uS (by simp)
      have Kt3 : Cur (uS t2 33 35 (nI (k + 1))) f _ lim := Kt2.fr (fs := [35]) (js := []) (Fr9.rf.uS (by simp)) (by decide) (by decide) (by decide)
      have At3 : (uS t2 33 35 (nI (k + 1))).1 33 35 = (nI (k + 1)) := uS_s _ _ _ _
      have Lt3 : ∀ j, j < k → (uS t2 33 35 (nI (k + 1))).2.1 33 17 j = σ.2.1 33 17 j ∧ (uS t2 33 35 (nI (k + 1))).2.1 33 18 j = σ.2.1 33 18 j ∧ (uS t2 33 35 (nI (k + 1))).2.1 33 19 j = σ.2.1 33 19 j := Lt2
      have R17t3 : (uS t2 33 35 (nI (k + 1))).2.1 33 17 k = (nI 2) := R17t2
      generalize (uS t2 33 35 (nI (k + 1))) = t3 at Ft3 Kt3 At3 Lt3 R17t3 ⊢
      refine go_aload_n (i := 0) (pc := 28) dX12_readsAct_28 rfl rfl ?_
      refine go_getr2 fl_X12_66 (pc := 29) dX12_readsAct_29 (by rfl) (by rfl) (by rfl) ?_
      refine go_iload_n (i := 1) (pc := 32) dX12_readsAct_32 rfl rfl ?_
      refine go_iaload _ (pc := 33) dX12_readsAct_33 (by first | rfl | (apply zM_ar <;> assumption)) (by first | rfl | (apply zM_jn <;> assumption)) rfl (by first | assumption | omega) ?_
      rw [R17t3]
      refine go_tableIn 98 (off := 64) (pc := 34) dX12_readsAct_34 (by decide) (by decide) (by decide) (by decide) ?_
      refine go_aload_n (i := 0) (pc := 98) dX12_readsAct_98 rfl rfl ?_
      refine go_getr2 fl_X12_69 (pc := 99) dX12_readsAct_99 (by rfl) (by rfl) (by rfl) ?_
      refine go_iload_n (i := 1) (pc := 102) dX12_readsAct_102 rfl rfl ?_
      refine go_aload_n (i := 0) (pc := 103) dX12_readsAct_103 rfl rfl ?_
      refine go_ldcwS 7 rfl rfl (pc := 104) dX12_readsAct_104 ?_
      refine go_callV ml_X12_172 mt_X12_takesOf (pc := 107) dX12_readsAct_107 (c_X12_takesOf (ti := 7) Kt3 (by decide)) (by rfl) rfl (by rfl) (by decide) (by decide) rfl rfl (Nat.le_of_ble_eq_true rfl) (fun r σ' hp2 => ?_)
      obtain ⟨rfl, Kb, hFe⟩ := hp2
      dsimp only [zRet]
      rw [hm1] at Kb ⊢
      dsimp only [gM] at Kb ⊢
      have Ft4 := Ft3.tr (hFe.mono (fs2 := [16, 35]) (js2 := [17, 18, 19]) (by simp) (by simp))
      have At4 : σ'.1 33 35 = (nI (k + 1)) := by rw [hFe.2.1 _ (by decide)]; exact At3
      have Lt4 : ∀ j, j < k → σ'.2.1 33 17 j = σ.2.1 33 17 j ∧ σ'.2.1 33 18 j = σ.2.1 33 18 j ∧ σ'.2.1 33 19 j = σ.2.1 33 19 j := fun j hj => by rw [hFe.2.2.1 17 (by decide), hFe.2.2.1 18 (by decide), hFe.2.2.1 19 (by decide)]; exact Lt3 j hj
      have R17t4 : σ'.2.1 33 17 k = (nI 2) := by rw [hFe.2.2.1 17 (by decide)]; exact R17t3
      generalize σ' = t4 at Ft4 At4 Lt4 Kb R17t4 ⊢
      refine go_iastore k (pc := 110) dX12_readsAct_110 rfl rfl rfl (by omega) ?_
      have Ft5 : Fr9 [16, 35] [17, 18, 19] σ (uA t4 33 18 (upd (t4.2.1 33 18) k (nI (f (p + 1) - 97)))) := Ft4.uA (by simp)
      have Kt5 : Cur (uA t4 33 18 (upd (t4.2.1 33 18) k (nI (f (p + 1) - 97)))) f _ lim := Kb.fr (fs := []) (js := [18]) (Fr9.rf.uA (by simp)) (by decide) (by decide) (by decide)
      have At5 : (uA t4 33 18 (upd (t4.2.1 33 18) k (nI (f (p + 1) - 97)))).1 33 35 = (nI (k + 1)) := At4
      have Lt5 : ∀ j, j < k → (uA t4 33 18 (upd (t4.2.1 33 18) k (nI (f (p + 1) - 97)))).2.1 33 17 j = σ.2.1 33 17 j ∧ (uA t4 33 18 (upd (t4.2.1 33 18) k (nI (f (p + 1) - 97)))).2.1 33 18 j = σ.2.1 33 18 j ∧ (uA t4 33 18 (upd (t4.2.1 33 18) k (nI (f (p + 1) - 97)))).2.1 33 19 j = σ.2.1 33 19 j := fun j hj => by
        have h := Lt4 j hj
        refine ⟨?_, ?_, ?_⟩
        · rw [uA_2]; first | (rw [if_neg (by decide)]; exact h.1) | (rw [if_pos (by decide), upd_at, if_neg (by omega)]; exact h.1)
        · rw [uA_2]; first | (rw [if_neg (by decide)]; exact h.2.1) | (rw [if_pos (by decide), upd_at, if_neg (by omega)]; exact h.2.1)
        · rw [uA_2]; first | (rw [if_neg (by decide)]; exact h.2.2) | (rw [if_pos (by decide), upd_at, if_neg (by omega)]; exact h.2.2)
      have R17t5 : (uA t4 33 18 (upd (t4.2.1 33 18) k (nI (f (p + 1) - 97)))).2.1 33 17 k = (nI 2) := by rw [uA_2, if_neg (by decide)]; exact R17t4
      have R18t5 : (uA t4 33 18 (upd (t4.2.1 33 18) k (nI (f (p + 1) - 97)))).2.1 33 18 k = (nI (f (p + 1) - 97)) := by rw [uA_s, upd_at, if_pos rfl]
      generalize (uA t4 33 18 (upd (t4.2.1 33 18) k (nI (f (p + 1) - 97)))) = t5 at Ft5 Kt5 At5 Lt5 R17t5 R18t5 ⊢
      refine go_aload_n (i := 0) (pc := 111) dX12_readsAct_111 rfl rfl ?_
      refine go_getr2 fl_X12_72 (pc := 112) dX12_readsAct_112 (by rfl) (by rfl) (by rfl) ?_
      refine go_iload_n (i := 1) (pc := 115) dX12_readsAct_115 rfl rfl ?_
      refine go_aload_n (i := 0) (pc := 116) dX12_readsAct_116 rfl rfl ?_
      refine go_getr2 fl_X12_69 (pc := 117) dX12_readsAct_117 (by rfl) (by rfl) (by rfl) ?_
      refine go_iload_n (i := 1) (pc := 120) dX12_readsAct_120 rfl rfl ?_
      refine go_iaload _ (pc := 121) dX12_readsAct_121 (by first | rfl | (apply zM_ar <;> assumption)) (by first | rfl | (apply zM_jn <;> assumption)) rfl (by first | assumption | omega) ?_
      rw [R18t5]
      refine go_if_ge 129 (pc := 122) dX12_readsAct_122 (by decide) (fun h122 => ?_) (fun h122 => ?_)
      · refine go_aload_n (i := 0) (pc := 129) dX12_readsAct_129 rfl rfl ?_
        refine go_aload_n (i := 0) (pc := 130) dX12_readsAct_130 rfl rfl ?_
        refine go_getr2 fl_X12_66 (pc := 131) dX12_readsAct_131 (by rfl) (by rfl) (by rfl) ?_
        refine go_iload_n (i := 1) (pc := 134) dX12_readsAct_134 rfl rfl ?_
        refine go_iaload _ (pc := 135) dX12_readsAct_135 (by first | rfl | (apply zM_ar <;> assumption)) (by first | rfl | (apply zM_jn <;> assumption)) rfl (by first | assumption | omega) ?_
        rw [R17t5]
        refine go_iconst (nI 1) (pc := 136) dX12_readsAct_136 (by decide) ?_
        refine go_isubN (pc := 137) dX12_readsAct_137 (by decide) ?_
        refine go_bipush (nI 9) (pc := 138) dX12_readsAct_138 (by decide) ?_
        refine go_callV ml_X12_186 mt_X12_digitIn (pc := 140) dX12_readsAct_140 (c_X12_digitIn (lo := 1) (hi := 9) Kt5 (by decide) (by decide)) (by rfl) rfl (by rfl) (by decide) (by decide) rfl rfl (Nat.le_of_ble_eq_true rfl) (fun r σ' hp2 => ?_)
        obtain ⟨rfl, Kc, hFg⟩ := hp2
        dsimp only [zRet]
        rw [if_neg h2] at Kc ⊢
        have Ft6 := Ft5.tr (hFg.mono (fs2 := [16, 35]) (js2 := [17, 18, 19]) (by simp) (by simp))
        have At6 : σ'.1 33 35 = (nI (k + 1)) := by rw [hFg.2.1 _ (by decide)]; exact At5
        have Lt6 : ∀ j, j < k → σ'.2.1 33 17 j = σ.2.1 33 17 j ∧ σ'.2.1 33 18 j = σ.2.1 33 18 j ∧ σ'.2.1 33 19 j = σ.2.1 33 19 j := fun j hj => by rw [hFg.2.2.1 17 (by decide), hFg.2.2.1 18 (by decide), hFg.2.2.1 19 (by decide)]; exact Lt5 j hj
        have R17t6 : σ'.2.1 33 17 k = (nI 2) := by rw [hFg.2.2.1 17 (by decide)]; exact R17t5
        have R18t6 : σ'.2.1 33 18 k = (nI (f (p + 1) - 97)) := by rw [hFg.2.2.1 18 (by decide)]; exact R18t5
        generalize σ' = t6 at Ft6 At6 Lt6 Kc R17t6 R18t6 ⊢
        refine go_iastore k (pc := 143) dX12_readsAct_143 rfl rfl rfl (by omega) ?_
        have Ft7 : Fr9 [16, 35] [17, 18, 19] σ (uA t6 33 19 (upd (t6.2.1 33 19) k (-1))) := Ft6.uA (by simp)
        have Kt7 : Cur (uA t6 33 19 (upd (t6.2.1 33 19) k (-1))) f _ lim := Kc.fr (fs := []) (js := [19]) (Fr9.rf.uA (by simp)) (by decide) (by decide) (by decide)
        have At7 : (uA t6 33 19 (upd (t6.2.1 33 19) k (-1))).1 33 35 = (nI (k + 1)) := At6
        have Lt7 : ∀ j, j < k → (uA t6 33 19 (upd (t6.2.1 33 19) k (-1))).2.1 33 17 j = σ.2.1 33 17 j ∧ (uA t6 33 19 (upd (t6.2.1 33 19) k (-1))).2.1 33 18 j = σ.2.1 33 18 j ∧ (uA t6 33 19 (upd (t6.2.1 33 19) k (-1))).2.1 33 19 j = σ.2.1 33 19 j := fun j hj => by
          have h := Lt6 j hj
          refine ⟨?_, ?_, ?_⟩
          · rw [uA_2]; first | (rw [if_neg (by decide)]; exact h.1) | (rw [if_pos (by decide), upd_at, if_neg (by omega)]; exact h.1)
          · rw [uA_2]; first | (rw [if_neg (by decide)]; exact h.2.1) | (rw [if_pos (by decide), upd_at, if_neg (by omega)]; exact h.2.1)
          · rw [uA_2]; first | (rw [if_neg (by decide)]; exact h.2.2) | (rw [if_pos (by decide), upd_at, if_neg (by omega)]; exact h.2.2)
        have R17t7 : (uA t6 33 19 (upd (t6.2.1 33 19) k (-1))).2.1 33 17 k = (nI 2) := by rw [uA_2, if_neg (by decide)]; exact R17t6
        have R18t7 : (uA t6 33 19 (upd (t6.2.1 33 19) k (-1))).2.1 33 18 k = (nI (f (p + 1) - 97)) := by rw [uA_2, if_neg (by decide)]; exact R18t6
        have R19t7 : (uA t6 33 19 (upd (t6.2.1 33 19) k (-1))).2.1 33 19 k = (-1) := by rw [uA_s, upd_at, if_pos rfl]
        generalize (uA t6 33 19 (upd (t6.2.1 33 19) k (-1))) = t7 at Ft7 Kt7 At7 Lt7 R17t7 R18t7 R19t7 ⊢
        refine go_aload_n (i := 0) (pc := 144) dX12_readsAct_144 rfl rfl ?_
        refine go_getr2 fl_X12_72 (pc := 145) dX12_readsAct_145 (by rfl) (by rfl) (by rfl) ?_
        refine go_iload_n (i := 1) (pc := 148) dX12_readsAct_148 rfl rfl ?_
        refine go_iaload _ (pc := 149) dX12_readsAct_149 (by first | rfl | (apply zM_ar <;> assumption)) (by first | rfl | (apply zM_jn <;> assumption)) rfl (by first | assumption | omega) ?_
        rw [R19t7]
        refine go_if_lt 157 (pc := 150) dX12_readsAct_150 (by decide) (fun h150 => ?_) (fun h150 => ?_)
        · refine go_iconst (nI 0) (pc := 157) dX12_readsAct_157 (by decide) ?_
          refine go_zreturn (pc := 158) dX12_readsAct_158 rfl rfl ?_
          rw [ec]
          exact ⟨rfl, Kt7, fun h => (by cases h), Lt7, Ft7⟩
        · exact absurd (by decide) h150
      · exact absurd (nI_pos' (by omega)) h122
  · skip
    have ec : aOne f lim p = (false, p + 1) := by
      unfold aOne
      rw [if_neg (by rw [hal]; decide)]
      by_cases hl : lim ≤ p + 1
      · rw [if_pos hl, show lim = p + 1 by omega]
      · rw [if_neg hl, if_pos (show fAct (f p) 1 (f (p + 1)) = false by unfold fAct; rw [if_pos ⟨rfl, by omega⟩]; exact decide_eq_false (by omega))]
    have hm1 : amA 7 f (p + 1) lim = none := by
      unfold amA
      by_cases hl : p + 1 < lim
      · rw [if_pos hl, am_7 _ (hfb (p + 1) (by omega)), if_neg (by omega)]
      · rw [if_neg hl]
    refine go_aload_n (i := 0) (pc := 0) dX12_readsAct_0 rfl rfl ?_
    refine go_geti fl_X12_340 (pc := 1) dX12_readsAct_1 (by rfl) ?_
    rw [h35]
    refine go_istore_n (i := 1) (pc := 4) dX12_readsAct_4 rfl (by decide) ?_
    refine go_aload_n (i := 0) (pc := 5) dX12_readsAct_5 rfl rfl ?_
    refine go_getr2 fl_X12_66 (pc := 6) dX12_readsAct_6 (by rfl) (by rfl) (by rfl) ?_
    refine go_iload_n (i := 1) (pc := 9) dX12_readsAct_9 rfl rfl ?_
    refine go_aload_n (i := 0) (pc := 10) dX12_readsAct_10 rfl rfl ?_
    refine go_ldcwS 6 rfl rfl (pc := 11) dX12_readsAct_11 ?_
    refine go_callV ml_X12_172 mt_X12_takesOf (pc := 14) dX12_readsAct_14 (c_X12_takesOf (ti := 6) hK (by decide)) (by rfl) rfl (by rfl) (by decide) (by decide) rfl rfl (Nat.le_of_ble_eq_true rfl) (fun r σ' hp2 => ?_)
    obtain ⟨rfl, Ka, hFd⟩ := hp2
    dsimp only [zRet]
    rw [hsg] at Ka ⊢
    dsimp only [gM] at Ka ⊢
    have Ft1 := Fr9.rf.tr (hFd.mono (fs2 := [16, 35]) (js2 := [17, 18, 19]) (by simp) (by simp))
    have At1 : σ'.1 33 35 = (nI k) := by rw [hFd.2.1 _ (by decide)]; exact h35
    have Lt1 : ∀ j, j < k → σ'.2.1 33 17 j = σ.2.1 33 17 j ∧ σ'.2.1 33 18 j = σ.2.1 33 18 j ∧ σ'.2.1 33 19 j = σ.2.1 33 19 j := fun j hj => by rw [hFd.2.2.1 17 (by decide), hFd.2.2.1 18 (by decide), hFd.2.2.1 19 (by decide)]; exact L00 j hj
    generalize σ' = t1 at Ft1 At1 Lt1 Ka ⊢
    refine go_iastore k (pc := 17) dX12_readsAct_17 rfl rfl rfl (by omega) ?_
    have Ft2 : Fr9 [16, 35] [17, 18, 19] σ (uA t1 33 17 (upd (t1.2.1 33 17) k (nI 2))) := Ft1.uA (by simp)
    have Kt2 : Cur (uA t1 33 17 (upd (t1.2.1 33 17) k (nI 2))) f _ lim := Ka.fr (fs := []) (js := [17]) (Fr9.rf.uA (by simp)) (by decide) (by decide) (by decide)
    have At2 : (uA t1 33 17 (upd (t1.2.1 33 17) k (nI 2))).1 33 35 = (nI k) := At1
    have Lt2 : ∀ j, j < k → (uA t1 33 17 (upd (t1.2.1 33 17) k (nI 2))).2.1 33 17 j = σ.2.1 33 17 j ∧ (uA t1 33 17 (upd (t1.2.1 33 17) k (nI 2))).2.1 33 18 j = σ.2.1 33 18 j ∧ (uA t1 33 17 (upd (t1.2.1 33 17) k (nI 2))).2.1 33 19 j = σ.2.1 33 19 j := fun j hj => by
      have h := Lt1 j hj
      refine ⟨?_, ?_, ?_⟩
      · rw [uA_2]; first | (rw [if_neg (by decide)]; exact h.1) | (rw [if_pos (by decide), upd_at, if_neg (by omega)]; exact h.1)
      · rw [uA_2]; first | (rw [if_neg (by decide)]; exact h.2.1) | (rw [if_pos (by decide), upd_at, if_neg (by omega)]; exact h.2.1)
      · rw [uA_2]; first | (rw [if_neg (by decide)]; exact h.2.2) | (rw [if_pos (by decide), upd_at, if_neg (by omega)]; exact h.2.2)
    have R17t2 : (uA t1 33 17 (upd (t1.2.1 33 17) k (nI 2))).2.1 33 17 k = (nI 2) := by rw [uA_s, upd_at, if_pos rfl]
    generalize (uA t1 33 17 (upd (t1.2.1 33 17) k (nI 2))) = t2 at Ft2 Kt2 At2 Lt2 R17t2 ⊢
    refine go_aload_n (i := 0) (pc := 18) dX12_readsAct_18 rfl rfl ?_
    refine go_dup (pc := 19) dX12_readsAct_19 rfl ?_
    refine go_geti fl_X12_340 (pc := 20) dX12_readsAct_20 (by rfl) ?_
    rw [At2]
    refine go_iconst (nI 1) (pc := 23) dX12_readsAct_23 (by decide) ?_
    first | with_reducible refine go_iaddN (pc := 24) dX12_readsAct_24 ?_ | refine go_iadd (pc := 24) dX12_readsAct_24 ?_
    refine go_puti fp_X12_340 (pc := 25) dX12_readsAct_25 (by rfl) rfl rfl ?_
    have Ft3 : Fr9 [16, 35] [17, 18, 19] σ (uS t2 33 35 (nI (k + 1))) := Ft2.uS (by simp)
    have Kt3 : Cur (uS t2 33 35 (nI (k + 1))) f _ lim := Kt2.fr (fs := [35]) (js := []) (Fr9.rf.uS (by simp)) (by decide) (by decide) (by decide)
    have At3 : (uS t2 33 35 (nI (k + 1))).1 33 35 = (nI (k + 1)) := uS_s _ _ _ _
    have Lt3 : ∀ j, j < k → (uS t2 33 35 (nI (k + 1))).2.1 33 17 j = σ.2.1 33 17 j ∧ (uS t2 33 35 (nI (k + 1))).2.1 33 18 j = σ.2.1 33 18 j ∧ (uS t2 33 35 (nI (k + 1))).2.1 33 19 j = σ.2.1 33 19 j := Lt2
    have R17t3 : (uS t2 33 35 (nI (k + 1))).2.1 33 17 k = (nI 2) := R17t2
    generalize (uS t2 33 35 (nI (k + 1))) = t3 at Ft3 Kt3 At3 Lt3 R17t3 ⊢
    refine go_aload_n (i := 0) (pc := 28) dX12_readsAct_28 rfl rfl ?_
    refine go_getr2 fl_X12_66 (pc := 29) dX12_readsAct_29 (by rfl) (by rfl) (by rfl) ?_
    refine go_iload_n (i := 1) (pc := 32) dX12_readsAct_32 rfl rfl ?_
    refine go_iaload _ (pc := 33) dX12_readsAct_33 (by first | rfl | (apply zM_ar <;> assumption)) (by first | rfl | (apply zM_jn <;> assumption)) rfl (by first | assumption | omega) ?_
    rw [R17t3]
    refine go_tableIn 98 (off := 64) (pc := 34) dX12_readsAct_34 (by decide) (by decide) (by decide) (by decide) ?_
    refine go_aload_n (i := 0) (pc := 98) dX12_readsAct_98 rfl rfl ?_
    refine go_getr2 fl_X12_69 (pc := 99) dX12_readsAct_99 (by rfl) (by rfl) (by rfl) ?_
    refine go_iload_n (i := 1) (pc := 102) dX12_readsAct_102 rfl rfl ?_
    refine go_aload_n (i := 0) (pc := 103) dX12_readsAct_103 rfl rfl ?_
    refine go_ldcwS 7 rfl rfl (pc := 104) dX12_readsAct_104 ?_
    refine go_callV ml_X12_172 mt_X12_takesOf (pc := 107) dX12_readsAct_107 (c_X12_takesOf (ti := 7) Kt3 (by decide)) (by rfl) rfl (by rfl) (by decide) (by decide) rfl rfl (Nat.le_of_ble_eq_true rfl) (fun r σ' hp2 => ?_)
    obtain ⟨rfl, Kb, hFe⟩ := hp2
    dsimp only [zRet]
    rw [hm1] at Kb ⊢
    dsimp only [gM] at Kb ⊢
    have Ft4 := Ft3.tr (hFe.mono (fs2 := [16, 35]) (js2 := [17, 18, 19]) (by simp) (by simp))
    have At4 : σ'.1 33 35 = (nI (k + 1)) := by rw [hFe.2.1 _ (by decide)]; exact At3
    have Lt4 : ∀ j, j < k → σ'.2.1 33 17 j = σ.2.1 33 17 j ∧ σ'.2.1 33 18 j = σ.2.1 33 18 j ∧ σ'.2.1 33 19 j = σ.2.1 33 19 j := fun j hj => by rw [hFe.2.2.1 17 (by decide), hFe.2.2.1 18 (by decide), hFe.2.2.1 19 (by decide)]; exact Lt3 j hj
    have R17t4 : σ'.2.1 33 17 k = (nI 2) := by rw [hFe.2.2.1 17 (by decide)]; exact R17t3
    generalize σ' = t4 at Ft4 At4 Lt4 Kb R17t4 ⊢
    refine go_iastore k (pc := 110) dX12_readsAct_110 rfl rfl rfl (by omega) ?_
    have Ft5 : Fr9 [16, 35] [17, 18, 19] σ (uA t4 33 18 (upd (t4.2.1 33 18) k (-1))) := Ft4.uA (by simp)
    have Kt5 : Cur (uA t4 33 18 (upd (t4.2.1 33 18) k (-1))) f _ lim := Kb.fr (fs := []) (js := [18]) (Fr9.rf.uA (by simp)) (by decide) (by decide) (by decide)
    have At5 : (uA t4 33 18 (upd (t4.2.1 33 18) k (-1))).1 33 35 = (nI (k + 1)) := At4
    have Lt5 : ∀ j, j < k → (uA t4 33 18 (upd (t4.2.1 33 18) k (-1))).2.1 33 17 j = σ.2.1 33 17 j ∧ (uA t4 33 18 (upd (t4.2.1 33 18) k (-1))).2.1 33 18 j = σ.2.1 33 18 j ∧ (uA t4 33 18 (upd (t4.2.1 33 18) k (-1))).2.1 33 19 j = σ.2.1 33 19 j := fun j hj => by
      have h := Lt4 j hj
      refine ⟨?_, ?_, ?_⟩
      · rw [uA_2]; first | (rw [if_neg (by decide)]; exact h.1) | (rw [if_pos (by decide), upd_at, if_neg (by omega)]; exact h.1)
      · rw [uA_2]; first | (rw [if_neg (by decide)]; exact h.2.1) | (rw [if_pos (by decide), upd_at, if_neg (by omega)]; exact h.2.1)
      · rw [uA_2]; first | (rw [if_neg (by decide)]; exact h.2.2) | (rw [if_pos (by decide), upd_at, if_neg (by omega)]; exact h.2.2)
    have R17t5 : (uA t4 33 18 (upd (t4.2.1 33 18) k (-1))).2.1 33 17 k = (nI 2) := by rw [uA_2, if_neg (by decide)]; exact R17t4
    have R18t5 : (uA t4 33 18 (upd (t4.2.1 33 18) k (-1))).2.1 33 18 k = (-1) := by rw [uA_s, upd_at, if_pos rfl]
    generalize (uA t4 33 18 (upd (t4.2.1 33 18) k (-1))) = t5 at Ft5 Kt5 At5 Lt5 R17t5 R18t5 ⊢
    refine go_aload_n (i := 0) (pc := 111) dX12_readsAct_111 rfl rfl ?_
    refine go_getr2 fl_X12_72 (pc := 112) dX12_readsAct_112 (by rfl) (by rfl) (by rfl) ?_
    refine go_iload_n (i := 1) (pc := 115) dX12_readsAct_115 rfl rfl ?_
    refine go_aload_n (i := 0) (pc := 116) dX12_readsAct_116 rfl rfl ?_
    refine go_getr2 fl_X12_69 (pc := 117) dX12_readsAct_117 (by rfl) (by rfl) (by rfl) ?_
    refine go_iload_n (i := 1) (pc := 120) dX12_readsAct_120 rfl rfl ?_
    refine go_iaload _ (pc := 121) dX12_readsAct_121 (by first | rfl | (apply zM_ar <;> assumption)) (by first | rfl | (apply zM_jn <;> assumption)) rfl (by first | assumption | omega) ?_
    rw [R18t5]
    refine go_if_ge 129 (pc := 122) dX12_readsAct_122 (by decide) (fun h122 => ?_) (fun h122 => ?_)
    · exact absurd h122 (by decide)
    · refine go_iconst (-1) (pc := 125) dX12_readsAct_125 (by decide) ?_
      refine go_goto 143 (pc := 126) dX12_readsAct_126 (by decide) ?_
      refine go_iastore k (pc := 143) dX12_readsAct_143 rfl rfl rfl (by omega) ?_
      have Ft6 : Fr9 [16, 35] [17, 18, 19] σ (uA t5 33 19 (upd (t5.2.1 33 19) k (-1))) := Ft5.uA (by simp)
      have Kt6 : Cur (uA t5 33 19 (upd (t5.2.1 33 19) k (-1))) f _ lim := Kt5.fr (fs := []) (js := [19]) (Fr9.rf.uA (by simp)) (by decide) (by decide) (by decide)
      have At6 : (uA t5 33 19 (upd (t5.2.1 33 19) k (-1))).1 33 35 = (nI (k + 1)) := At5
      have Lt6 : ∀ j, j < k → (uA t5 33 19 (upd (t5.2.1 33 19) k (-1))).2.1 33 17 j = σ.2.1 33 17 j ∧ (uA t5 33 19 (upd (t5.2.1 33 19) k (-1))).2.1 33 18 j = σ.2.1 33 18 j ∧ (uA t5 33 19 (upd (t5.2.1 33 19) k (-1))).2.1 33 19 j = σ.2.1 33 19 j := fun j hj => by
        have h := Lt5 j hj
        refine ⟨?_, ?_, ?_⟩
        · rw [uA_2]; first | (rw [if_neg (by decide)]; exact h.1) | (rw [if_pos (by decide), upd_at, if_neg (by omega)]; exact h.1)
        · rw [uA_2]; first | (rw [if_neg (by decide)]; exact h.2.1) | (rw [if_pos (by decide), upd_at, if_neg (by omega)]; exact h.2.1)
        · rw [uA_2]; first | (rw [if_neg (by decide)]; exact h.2.2) | (rw [if_pos (by decide), upd_at, if_neg (by omega)]; exact h.2.2)
      have R17t6 : (uA t5 33 19 (upd (t5.2.1 33 19) k (-1))).2.1 33 17 k = (nI 2) := by rw [uA_2, if_neg (by decide)]; exact R17t5
      have R18t6 : (uA t5 33 19 (upd (t5.2.1 33 19) k (-1))).2.1 33 18 k = (-1) := by rw [uA_2, if_neg (by decide)]; exact R18t5
      have R19t6 : (uA t5 33 19 (upd (t5.2.1 33 19) k (-1))).2.1 33 19 k = (-1) := by rw [uA_s, upd_at, if_pos rfl]
      generalize (uA t5 33 19 (upd (t5.2.1 33 19) k (-1))) = t6 at Ft6 Kt6 At6 Lt6 R17t6 R18t6 R19t6 ⊢
      refine go_aload_n (i := 0) (pc := 144) dX12_readsAct_144 rfl rfl ?_
      refine go_getr2 fl_X12_72 (pc := 145) dX12_readsAct_145 (by rfl) (by rfl) (by rfl) ?_
      refine go_iload_n (i := 1) (pc := 148) dX12_readsAct_148 rfl rfl ?_
      refine go_iaload _ (pc := 149) dX12_readsAct_149 (by first | rfl | (apply zM_ar <;> assumption)) (by first | rfl | (apply zM_jn <;> assumption)) rfl (by first | assumption | omega) ?_
      rw [R19t6]
      refine go_if_lt 157 (pc := 150) dX12_readsAct_150 (by decide) (fun h150 => ?_) (fun h150 => ?_)
      · refine go_iconst (nI 0) (pc := 157) dX12_readsAct_157 (by decide) ?_
        refine go_zreturn (pc := 158) dX12_readsAct_158 rfl rfl ?_
        rw [ec]
        exact ⟨rfl, Kt6, fun h => (by cases h), Lt6, Ft6⟩
      · exact absurd (by decide) h150

theorem c_readsAct3 {E : zE} {σ : zT} {f : Nat → Nat} {p lim k : Nat} (hK : Cur σ f p lim) (hp : p < lim) (h35 : σ.1 33 35 = nI k) (hk : k < 60) (hfp : f p = 103) : CalM E 6 yX12_readsAct cX12_readsAct 2 (some .boolean) [.ref (zA E 33 0)] σ (fun r σ' => r = some (.int (zb (aOne f lim p).1)) ∧ Cur σ' f (aOne f lim p).2 lim ∧ ((aOne f lim p).1 = true → σ'.1 33 35 = nI (k + 1) ∧ ActIs σ' f k p) ∧ (∀ j, j < k → σ'.2.1 33 17 j = σ.2.1 33 17 j ∧ σ'.2.1 33 18 j = σ.2.1 33 18 j ∧ σ'.2.1 33 19 j = σ.2.1 33 19 j) ∧ Fr9 [16, 35] [17, 18, 19] σ σ') := by
  refine cal_of_go (own := RX12) rfl (by decide +kernel) (Nat.le_of_ble_eq_true rfl) ?_
  have hfb := fun i (h : i < 80) => (hK.2.2.2.2 i h).2
  have hl80 := hK.2.2.2.1
  have hfp0 := hfb p (by omega)
  have L00 : ∀ j, j < k → σ.2.1 33 17 j = σ.2.1 33 17 j ∧ σ.2.1 33 18 j = σ.2.1 33 18 j ∧ σ.2.1 33 19 j = σ.2.1 33 19 j := fun _ _ => ⟨rfl, rfl, rfl⟩
  have hsg : amA 6 f p lim = some 3 := by rw [amA_in hp, am_6 _ hfp0, hfp]; rfl
  have hal : aLen (f p) = 2 := by rw [hfp]; rfl
  by_cases h1 : p + 1 < lim ∧ 97 ≤ f (p + 1) ∧ f (p + 1) ≤ 108
  · have hf1 := hfb (p + 1) (by omega)
    have ec : aOne f lim p = (true, p + 2) := by
      unfold aOne
      rw [if_neg (by rw [hal]; decide)]
      rw [if_neg (by omega)]
      rw [if_neg (show ¬ fAct (f p) 1 (f (p + 1)) = false by unfold fAct; rw [if_pos ⟨rfl, by omega⟩]; rw [decide_eq_true (by omega)]; decide)]
      rw [if_pos (by rw [hal])]
    have hm1 : amA 7 f (p + 1) lim = some (f (p + 1) - 97) := by
      rw [amA_in h1.1, am_7 _ (hfb (p + 1) (by omega)), if_pos h1.2]
    refine go_aload_n (i := 0) (pc := 0) dX12_readsAct_0 rfl rfl ?_
    refine go_geti fl_X12_340 (pc := 1) dX12_readsAct_1 (by rfl) ?_
    rw [h35]
    refine go_istore_n (i := 1) (pc := 4) dX12_readsAct_4 rfl (by decide) ?_
    refine go_aload_n (i := 0) (pc := 5) dX12_readsAct_5 rfl rfl ?_
    refine go_getr2 fl_X12_66 (pc := 6) dX12_readsAct_6 (by rfl) (by rfl) (by rfl) ?_
    refine go_iload_n (i := 1) (pc := 9) dX12_readsAct_9 rfl rfl ?_
    refine go_aload_n (i := 0) (pc := 10) dX12_readsAct_10 rfl rfl ?_
    refine go_ldcwS 6 rfl rfl (pc := 11) dX12_readsAct_11 ?_
    refine go_callV ml_X12_172 mt_X12_takesOf (pc := 14) dX12_readsAct_14 (c_X12_takesOf (ti := 6) hK (by decide)) (by rfl) rfl (by rfl) (by decide) (by decide) rfl rfl (Nat.le_of_ble_eq_true rfl) (fun r σ' hp2 => ?_)
    obtain ⟨rfl, Ka, hFd⟩ := hp2
    dsimp only [zRet]
    rw [hsg] at Ka ⊢
    dsimp only [gM] at Ka ⊢
    have Ft1 := Fr9.rf.tr (hFd.mono (fs2 := [16, 35]) (js2 := [17, 18, 19]) (by simp) (by simp))
    have At1 : σ'.1 33 35 = (nI k) := by rw [hFd.2.1 _ (by decide)]; exact h35
    have Lt1 : ∀ j, j < k → σ'.2.1 33 17 j = σ.2.1 33 17 j ∧ σ'.2.1 33 18 j = σ.2.1 33 18 j ∧ σ'.2.1 33 19 j = σ.2.1 33 19 j := fun j hj => by rw [hFd.2.2.1 17 (by decide), hFd.2.2.1 18 (by decide), hFd.2.2.1 19 (by decide)]; exact L00 j hj
    generalize σ' = t1 at Ft1 At1 Lt1 Ka ⊢
    refine go_iastore k (pc := 17) dX12_readsAct_17 rfl rfl rfl (by omega) ?_
    have Ft2 : Fr9 [16, 35] [17, 18, 19] σ (uA t1 33 17 (upd (t1.2.1 33 17) k (nI 3))) := Ft1.uA (by simp)
    have Kt2 : Cur (uA t1 33 17 (upd (t1.2.1 33 17) k (nI 3))) f _ lim := Ka.fr (fs := []) (js := [17]) (Fr9.rf.uA (by simp)) (by decide) (by decide) (by decide)
    have At2 : (uA t1 33 17 (upd (t1.2.1 33 17) k (nI 3))).1 33 35 = (nI k) := At1
    have Lt2 : ∀ j, j < k → (uA t1 33 17 (upd (t1.2.1 33 17) k (nI 3))).2.1 33 17 j = σ.2.1 33 17 j ∧ (uA t1 33 17 (upd (t1.2.1 33 17) k (nI 3))).2.1 33 18 j = σ.2.1 33 18 j ∧ (uA t1 33 17 (upd (t1.2.1 33 17) k (nI 3))).2.1 33 19 j = σ.2.1 33 19 j := fun j hj => by
      have h := Lt1 j hj
      refine ⟨?_, ?_, ?_⟩
      · rw [uA_2]; first | (rw [if_neg (by decide)]; exact h.1) | (rw [if_pos (by decide), upd_at, if_neg (by omega)]; exact h.1)
      · rw [uA_2]; first | (rw [if_neg (by decide)]; exact h.2.1) | (rw [if_pos (by decide), upd_at, if_neg (by omega)]; exact h.2.1)
      · rw [uA_2]; first | (rw [if_neg (by decide)]; exact h.2.2) | (rw [if_pos (by decide), upd_at, if_neg (by omega)]; exact h.2.2)
    have R17t2 : (uA t1 33 17 (upd (t1.2.1 33 17) k (nI 3))).2.1 33 17 k = (nI 3) := by rw [uA_s, upd_at, if_pos rfl]
    generalize (uA t1 33 17 (upd (t1.2.1 33 17) k (nI 3))) = t2 at Ft2 Kt2 At2 Lt2 R17t2 ⊢
    refine go_aload_n (i := 0) (pc := 18) dX12_readsAct_18 rfl rfl ?_
    refine go_dup (pc := 19) dX12_readsAct_19 rfl ?_
    refine go_geti fl_X12_340 (pc := 20) dX12_readsAct_20 (by rfl) ?_
    rw [At2]
    refine go_iconst (nI 1) (pc := 23) dX12_readsAct_23 (by decide) ?_
    first | with_reducible refine go_iaddN (pc := 24) dX12_readsAct_24 ?_ | refine go_iadd (pc := 24) dX12_readsAct_24 ?_
    refine go_puti fp_X12_340 (pc := 25) dX12_readsAct_25 (by rfl) rfl rfl ?_
    have Ft3 : Fr9 [16, 35] [17, 18, 19] σ (uS t2 33 35 (nI (k + 1))) := Ft2.uS (by simp)
    have Kt3 : Cur (uS t2 33 35 (nI (k + 1))) f _ lim := Kt2.fr (fs := [35]) (js := []) (Fr9.rf.uS (by simp)) (by decide) (by decide) (by decide)
    have At3 : (uS t2 33 35 (nI (k + 1))).1 33 35 = (nI (k + 1)) := uS_s _ _ _ _
    have Lt3 : ∀ j, j < k → (uS t2 33 35 (nI (k + 1))).2.1 33 17 j = σ.2.1 33 17 j ∧ (uS t2 33 35 (nI (k + 1))).2.1 33 18 j = σ.2.1 33 18 j ∧ (uS t2 33 35 (nI (k + 1))).2.1 33 19 j = σ.2.1 33 19 j := Lt2
    have R17t3 : (uS t2 33 35 (nI (k + 1))).2.1 33 17 k = (nI 3) := R17t2
    generalize (uS t2 33 35 (nI (k + 1))) = t3 at Ft3 Kt3 At3 Lt3 R17t3 ⊢
    refine go_aload_n (i := 0) (pc := 28) dX12_readsAct_28 rfl rfl ?_
    refine go_getr2 fl_X12_66 (pc := 29) dX12_readsAct_29 (by rfl) (by rfl) (by rfl) ?_
    refine go_iload_n (i := 1) (pc := 32) dX12_readsAct_32 rfl rfl ?_
    refine go_iaload _ (pc := 33) dX12_readsAct_33 (by first | rfl | (apply zM_ar <;> assumption)) (by first | rfl | (apply zM_jn <;> assumption)) rfl (by first | assumption | omega) ?_
    rw [R17t3]
    refine go_tableIn 159 (off := 125) (pc := 34) dX12_readsAct_34 (by decide) (by decide) (by decide) (by decide) ?_
    refine go_aload_n (i := 0) (pc := 159) dX12_readsAct_159 rfl rfl ?_
    refine go_getr2 fl_X12_69 (pc := 160) dX12_readsAct_160 (by rfl) (by rfl) (by rfl) ?_
    refine go_iload_n (i := 1) (pc := 163) dX12_readsAct_163 rfl rfl ?_
    refine go_aload_n (i := 0) (pc := 164) dX12_readsAct_164 rfl rfl ?_
    refine go_ldcwS 7 rfl rfl (pc := 165) dX12_readsAct_165 ?_
    refine go_callV ml_X12_172 mt_X12_takesOf (pc := 168) dX12_readsAct_168 (c_X12_takesOf (ti := 7) Kt3 (by decide)) (by rfl) rfl (by rfl) (by decide) (by decide) rfl rfl (Nat.le_of_ble_eq_true rfl) (fun r σ' hp2 => ?_)
    obtain ⟨rfl, Kb, hFe⟩ := hp2
    dsimp only [zRet]
    rw [hm1] at Kb ⊢
    dsimp only [gM] at Kb ⊢
    have Ft4 := Ft3.tr (hFe.mono (fs2 := [16, 35]) (js2 := [17, 18, 19]) (by simp) (by simp))
    have At4 : σ'.1 33 35 = (nI (k + 1)) := by rw [hFe.2.1 _ (by decide)]; exact At3
    have Lt4 : ∀ j, j < k → σ'.2.1 33 17 j = σ.2.1 33 17 j ∧ σ'.2.1 33 18 j = σ.2.1 33 18 j ∧ σ'.2.1 33 19 j = σ.2.1 33 19 j := fun j hj => by rw [hFe.2.2.1 17 (by decide), hFe.2.2.1 18 (by decide), hFe.2.2.1 19 (by decide)]; exact Lt3 j hj
    have R17t4 : σ'.2.1 33 17 k = (nI 3) := by rw [hFe.2.2.1 17 (by decide)]; exact R17t3
    generalize σ' = t4 at Ft4 At4 Lt4 Kb R17t4 ⊢
    refine go_iastore k (pc := 171) dX12_readsAct_171 rfl rfl rfl (by omega) ?_
    have Ft5 : Fr9 [16, 35] [17, 18, 19] σ (uA t4 33 18 (upd (t4.2.1 33 18) k (nI (f (p + 1) - 97)))) := Ft4.uA (by simp)
    have Kt5 : Cur (uA t4 33 18 (upd (t4.2.1 33 18) k (nI (f (p + 1) - 97)))) f _ lim := Kb.fr (fs := []) (js := [18]) (Fr9.rf.uA (by simp)) (by decide) (by decide) (by decide)
    have At5 : (uA t4 33 18 (upd (t4.2.1 33 18) k (nI (f (p + 1) - 97)))).1 33 35 = (nI (k + 1)) := At4
    have Lt5 : ∀ j, j < k → (uA t4 33 18 (upd (t4.2.1 33 18) k (nI (f (p + 1) - 97)))).2.1 33 17 j = σ.2.1 33 17 j ∧ (uA t4 33 18 (upd (t4.2.1 33 18) k (nI (f (p + 1) - 97)))).2.1 33 18 j = σ.2.1 33 18 j ∧ (uA t4 33 18 (upd (t4.2.1 33 18) k (nI (f (p + 1) - 97)))).2.1 33 19 j = σ.2.1 33 19 j := fun j hj => by
      have h := Lt4 j hj
      refine ⟨?_, ?_, ?_⟩
      · rw [uA_2]; first | (rw [if_neg (by decide)]; exact h.1) | (rw [if_pos (by decide), upd_at, if_neg (by omega)]; exact h.1)
      · rw [uA_2]; first | (rw [if_neg (by decide)]; exact h.2.1) | (rw [if_pos (by decide), upd_at, if_neg (by omega)]; exact h.2.1)
      · rw [uA_2]; first | (rw [if_neg (by decide)]; exact h.2.2) | (rw [if_pos (by decide), upd_at, if_neg (by omega)]; exact h.2.2)
    have R17t5 : (uA t4 33 18 (upd (t4.2.1 33 18) k (nI (f (p + 1) - 97)))).2.1 33 17 k = (nI 3) := by rw [uA_2, if_neg (by decide)]; exact R17t4
    have R18t5 : (uA t4 33 18 (upd (t4.2.1 33 18) k (nI (f (p + 1) - 97)))).2.1 33 18 k = (nI (f (p + 1) - 97)) := by rw [uA_s, upd_at, if_pos rfl]
    generalize (uA t4 33 18 (upd (t4.2.1 33 18) k (nI (f (p + 1) - 97)))) = t5 at Ft5 Kt5 At5 Lt5 R17t5 R18t5 ⊢
    refine go_aload_n (i := 0) (pc := 172) dX12_readsAct_172 rfl rfl ?_
    refine go_getr2 fl_X12_69 (pc := 173) dX12_readsAct_173 (by rfl) (by rfl) (by rfl) ?_
    refine go_iload_n (i := 1) (pc := 176) dX12_readsAct_176 rfl rfl ?_
    refine go_iaload _ (pc := 177) dX12_readsAct_177 (by first | rfl | (apply zM_ar <;> assumption)) (by first | rfl | (apply zM_jn <;> assumption)) rfl (by first | assumption | omega) ?_
    rw [R18t5]
    refine go_if_lt 185 (pc := 178) dX12_readsAct_178 (by decide) (fun h178 => ?_) (fun h178 => ?_)
    · exact absurd h178 (nI_pos (by omega))
    · refine go_iconst (nI 1) (pc := 181) dX12_readsAct_181 (by decide) ?_
      refine go_goto 186 (pc := 182) dX12_readsAct_182 (by decide) ?_
      refine go_zreturn (pc := 186) dX12_readsAct_186 rfl rfl ?_
      rw [ec]
      exact ⟨rfl, Kt5, fun _ => ⟨At5, by rw [R17t5, hfp]; rfl, by rw [R18t5]; unfold aV1; rw [hfp]; rfl, fun h => by omega⟩, Lt5, Ft5⟩
  · skip
    have ec : aOne f lim p = (false, p + 1) := by
      unfold aOne
      rw [if_neg (by rw [hal]; decide)]
      by_cases hl : lim ≤ p + 1
      · rw [if_pos hl, show lim = p + 1 by omega]
      · rw [if_neg hl, if_pos (show fAct (f p) 1 (f (p + 1)) = false by unfold fAct; rw [if_pos ⟨rfl, by omega⟩]; exact decide_eq_false (by omega))]
    have hm1 : amA 7 f (p + 1) lim = none := by
      unfold amA
      by_cases hl : p + 1 < lim
      · rw [if_pos hl, am_7 _ (hfb (p + 1) (by omega)), if_neg (by omega)]
      · rw [if_neg hl]
    refine go_aload_n (i := 0) (pc := 0) dX12_readsAct_0 rfl rfl ?_
    refine go_geti fl_X12_340 (pc := 1) dX12_readsAct_1 (by rfl) ?_
    rw [h35]
    refine go_istore_n (i := 1) (pc := 4) dX12_readsAct_4 rfl (by decide) ?_
    refine go_aload_n (i := 0) (pc := 5) dX12_readsAct_5 rfl rfl ?_
    refine go_getr2 fl_X12_66 (pc := 6) dX12_readsAct_6 (by rfl) (by rfl) (by rfl) ?_
    refine go_iload_n (i := 1) (pc := 9) dX12_readsAct_9 rfl rfl ?_
    refine go_aload_n (i := 0) (pc := 10) dX12_readsAct_10 rfl rfl ?_
    refine go_ldcwS 6 rfl rfl (pc := 11) dX12_readsAct_11 ?_
    refine go_callV ml_X12_172 mt_X12_takesOf (pc := 14) dX12_readsAct_14 (c_X12_takesOf (ti := 6) hK (by decide)) (by rfl) rfl (by rfl) (by decide) (by decide) rfl rfl (Nat.le_of_ble_eq_true rfl) (fun r σ' hp2 => ?_)
    obtain ⟨rfl, Ka, hFd⟩ := hp2
    dsimp only [zRet]
    rw [hsg] at Ka ⊢
    dsimp only [gM] at Ka ⊢
    have Ft1 := Fr9.rf.tr (hFd.mono (fs2 := [16, 35]) (js2 := [17, 18, 19]) (by simp) (by simp))
    have At1 : σ'.1 33 35 = (nI k) := by rw [hFd.2.1 _ (by decide)]; exact h35
    have Lt1 : ∀ j, j < k → σ'.2.1 33 17 j = σ.2.1 33 17 j ∧ σ'.2.1 33 18 j = σ.2.1 33 18 j ∧ σ'.2.1 33 19 j = σ.2.1 33 19 j := fun j hj => by rw [hFd.2.2.1 17 (by decide), hFd.2.2.1 18 (by decide), hFd.2.2.1 19 (by decide)]; exact L00 j hj
    generalize σ' = t1 at Ft1 At1 Lt1 Ka ⊢
    refine go_iastore k (pc := 17) dX12_readsAct_17 rfl rfl rfl (by omega) ?_
    have Ft2 : Fr9 [16, 35] [17, 18, 19] σ (uA t1 33 17 (upd (t1.2.1 33 17) k (nI 3))) := Ft1.uA (by simp)
    have Kt2 : Cur (uA t1 33 17 (upd (t1.2.1 33 17) k (nI 3))) f _ lim := Ka.fr (fs := []) (js := [17]) (Fr9.rf.uA (by simp)) (by decide) (by decide) (by decide)
    have At2 : (uA t1 33 17 (upd (t1.2.1 33 17) k (nI 3))).1 33 35 = (nI k) := At1
    have Lt2 : ∀ j, j < k → (uA t1 33 17 (upd (t1.2.1 33 17) k (nI 3))).2.1 33 17 j = σ.2.1 33 17 j ∧ (uA t1 33 17 (upd (t1.2.1 33 17) k (nI 3))).2.1 33 18 j = σ.2.1 33 18 j ∧ (uA t1 33 17 (upd (t1.2.1 33 17) k (nI 3))).2.1 33 19 j = σ.2.1 33 19 j := fun j hj => by
      have h := Lt1 j hj
      refine ⟨?_, ?_, ?_⟩
      · rw [uA_2]; first | (rw [if_neg (by decide)]; exact h.1) | (rw [if_pos (by decide), upd_at, if_neg (by omega)]; exact h.1)
      · rw [uA_2]; first | (rw [if_neg (by decide)]; exact h.2.1) | (rw [if_pos (by decide), upd_at, if_neg (by omega)]; exact h.2.1)
      · rw [uA_2]; first | (rw [if_neg (by decide)]; exact h.2.2) | (rw [if_pos (by decide), upd_at, if_neg (by omega)]; exact h.2.2)
    have R17t2 : (uA t1 33 17 (upd (t1.2.1 33 17) k (nI 3))).2.1 33 17 k = (nI 3) := by rw [uA_s, upd_at, if_pos rfl]
    generalize (uA t1 33 17 (upd (t1.2.1 33 17) k (nI 3))) = t2 at Ft2 Kt2 At2 Lt2 R17t2 ⊢
    refine go_aload_n (i := 0) (pc := 18) dX12_readsAct_18 rfl rfl ?_
    refine go_dup (pc := 19) dX12_readsAct_19 rfl ?_
    refine go_geti fl_X12_340 (pc := 20) dX12_readsAct_20 (by rfl) ?_
    rw [At2]
    refine go_iconst (nI 1) (pc := 23) dX12_readsAct_23 (by decide) ?_
    first | with_reducible refine go_iaddN (pc := 24) dX12_readsAct_24 ?_ | refine go_iadd (pc := 24) dX12_readsAct_24 ?_
    refine go_puti fp_X12_340 (pc := 25) dX12_readsAct_25 (by rfl) rfl rfl ?_
    have Ft3 : Fr9 [16, 35] [17, 18, 19] σ (uS t2 33 35 (nI (k + 1))) := Ft2.uS (by simp)
    have Kt3 : Cur (uS t2 33 35 (nI (k + 1))) f _ lim := Kt2.fr (fs := [35]) (js := []) (Fr9.rf.uS (by simp)) (by decide) (by decide) (by decide)
    have At3 : (uS t2 33 35 (nI (k + 1))).1 33 35 = (nI (k + 1)) := uS_s _ _ _ _
    have Lt3 : ∀ j, j < k → (uS t2 33 35 (nI (k + 1))).2.1 33 17 j = σ.2.1 33 17 j ∧ (uS t2 33 35 (nI (k + 1))).2.1 33 18 j = σ.2.1 33 18 j ∧ (uS t2 33 35 (nI (k + 1))).2.1 33 19 j = σ.2.1 33 19 j := Lt2
    have R17t3 : (uS t2 33 35 (nI (k + 1))).2.1 33 17 k = (nI 3) := R17t2
    generalize (uS t2 33 35 (nI (k + 1))) = t3 at Ft3 Kt3 At3 Lt3 R17t3 ⊢
    refine go_aload_n (i := 0) (pc := 28) dX12_readsAct_28 rfl rfl ?_
    refine go_getr2 fl_X12_66 (pc := 29) dX12_readsAct_29 (by rfl) (by rfl) (by rfl) ?_
    refine go_iload_n (i := 1) (pc := 32) dX12_readsAct_32 rfl rfl ?_
    refine go_iaload _ (pc := 33) dX12_readsAct_33 (by first | rfl | (apply zM_ar <;> assumption)) (by first | rfl | (apply zM_jn <;> assumption)) rfl (by first | assumption | omega) ?_
    rw [R17t3]
    refine go_tableIn 159 (off := 125) (pc := 34) dX12_readsAct_34 (by decide) (by decide) (by decide) (by decide) ?_
    refine go_aload_n (i := 0) (pc := 159) dX12_readsAct_159 rfl rfl ?_
    refine go_getr2 fl_X12_69 (pc := 160) dX12_readsAct_160 (by rfl) (by rfl) (by rfl) ?_
    refine go_iload_n (i := 1) (pc := 163) dX12_readsAct_163 rfl rfl ?_
    refine go_aload_n (i := 0) (pc := 164) dX12_readsAct_164 rfl rfl ?_
    refine go_ldcwS 7 rfl rfl (pc := 165) dX12_readsAct_165 ?_
    refine go_callV ml_X12_172 mt_X12_takesOf (pc := 168) dX12_readsAct_168 (c_X12_takesOf (ti := 7) Kt3 (by decide)) (by rfl) rfl (by rfl) (by decide) (by decide) rfl rfl (Nat.le_of_ble_eq_true rfl) (fun r σ' hp2 => ?_)
    obtain ⟨rfl, Kb, hFe⟩ := hp2
    dsimp only [zRet]
    rw [hm1] at Kb ⊢
    dsimp only [gM] at Kb ⊢
    have Ft4 := Ft3.tr (hFe.mono (fs2 := [16, 35]) (js2 := [17, 18, 19]) (by simp) (by simp))
    have At4 : σ'.1 33 35 = (nI (k + 1)) := by rw [hFe.2.1 _ (by decide)]; exact At3
    have Lt4 : ∀ j, j < k → σ'.2.1 33 17 j = σ.2.1 33 17 j ∧ σ'.2.1 33 18 j = σ.2.1 33 18 j ∧ σ'.2.1 33 19 j = σ.2.1 33 19 j := fun j hj => by rw [hFe.2.2.1 17 (by decide), hFe.2.2.1 18 (by decide), hFe.2.2.1 19 (by decide)]; exact Lt3 j hj
    have R17t4 : σ'.2.1 33 17 k = (nI 3) := by rw [hFe.2.2.1 17 (by decide)]; exact R17t3
    generalize σ' = t4 at Ft4 At4 Lt4 Kb R17t4 ⊢
    refine go_iastore k (pc := 171) dX12_readsAct_171 rfl rfl rfl (by omega) ?_
    have Ft5 : Fr9 [16, 35] [17, 18, 19] σ (uA t4 33 18 (upd (t4.2.1 33 18) k (-1))) := Ft4.uA (by simp)
    have Kt5 : Cur (uA t4 33 18 (upd (t4.2.1 33 18) k (-1))) f _ lim := Kb.fr (fs := []) (js := [18]) (Fr9.rf.uA (by simp)) (by decide) (by decide) (by decide)
    have At5 : (uA t4 33 18 (upd (t4.2.1 33 18) k (-1))).1 33 35 = (nI (k + 1)) := At4
    have Lt5 : ∀ j, j < k → (uA t4 33 18 (upd (t4.2.1 33 18) k (-1))).2.1 33 17 j = σ.2.1 33 17 j ∧ (uA t4 33 18 (upd (t4.2.1 33 18) k (-1))).2.1 33 18 j = σ.2.1 33 18 j ∧ (uA t4 33 18 (upd (t4.2.1 33 18) k (-1))).2.1 33 19 j = σ.2.1 33 19 j := fun j hj => by
      have h := Lt4 j hj
      refine ⟨?_, ?_, ?_⟩
      · rw [uA_2]; first | (rw [if_neg (by decide)]; exact h.1) | (rw [if_pos (by decide), upd_at, if_neg (by omega)]; exact h.1)
      · rw [uA_2]; first | (rw [if_neg (by decide)]; exact h.2.1) | (rw [if_pos (by decide), upd_at, if_neg (by omega)]; exact h.2.1)
      · rw [uA_2]; first | (rw [if_neg (by decide)]; exact h.2.2) | (rw [if_pos (by decide), upd_at, if_neg (by omega)]; exact h.2.2)
    have R17t5 : (uA t4 33 18 (upd (t4.2.1 33 18) k (-1))).2.1 33 17 k = (nI 3) := by rw [uA_2, if_neg (by decide)]; exact R17t4
    have R18t5 : (uA t4 33 18 (upd (t4.2.1 33 18) k (-1))).2.1 33 18 k = (-1) := by rw [uA_s, upd_at, if_pos rfl]
    generalize (uA t4 33 18 (upd (t4.2.1 33 18) k (-1))) = t5 at Ft5 Kt5 At5 Lt5 R17t5 R18t5 ⊢
    refine go_aload_n (i := 0) (pc := 172) dX12_readsAct_172 rfl rfl ?_
    refine go_getr2 fl_X12_69 (pc := 173) dX12_readsAct_173 (by rfl) (by rfl) (by rfl) ?_
    refine go_iload_n (i := 1) (pc := 176) dX12_readsAct_176 rfl rfl ?_
    refine go_iaload _ (pc := 177) dX12_readsAct_177 (by first | rfl | (apply zM_ar <;> assumption)) (by first | rfl | (apply zM_jn <;> assumption)) rfl (by first | assumption | omega) ?_
    rw [R18t5]
    refine go_if_lt 185 (pc := 178) dX12_readsAct_178 (by decide) (fun h178 => ?_) (fun h178 => ?_)
    · refine go_iconst (nI 0) (pc := 185) dX12_readsAct_185 (by decide) ?_
      refine go_zreturn (pc := 186) dX12_readsAct_186 rfl rfl ?_
      rw [ec]
      exact ⟨rfl, Kt5, fun h => (by cases h), Lt5, Ft5⟩
    · exact absurd (by decide) h178

theorem c_readsAct4 {E : zE} {σ : zT} {f : Nat → Nat} {p lim k : Nat} (hK : Cur σ f p lim) (hp : p < lim) (h35 : σ.1 33 35 = nI k) (hk : k < 60) (hfp : f p = 99) : CalM E 6 yX12_readsAct cX12_readsAct 2 (some .boolean) [.ref (zA E 33 0)] σ (fun r σ' => r = some (.int (zb (aOne f lim p).1)) ∧ Cur σ' f (aOne f lim p).2 lim ∧ ((aOne f lim p).1 = true → σ'.1 33 35 = nI (k + 1) ∧ ActIs σ' f k p) ∧ (∀ j, j < k → σ'.2.1 33 17 j = σ.2.1 33 17 j ∧ σ'.2.1 33 18 j = σ.2.1 33 18 j ∧ σ'.2.1 33 19 j = σ.2.1 33 19 j) ∧ Fr9 [16, 35] [17, 18, 19] σ σ') := by
  refine cal_of_go (own := RX12) rfl (by decide +kernel) (Nat.le_of_ble_eq_true rfl) ?_
  have hfb := fun i (h : i < 80) => (hK.2.2.2.2 i h).2
  have hl80 := hK.2.2.2.1
  have hfp0 := hfb p (by omega)
  have L00 : ∀ j, j < k → σ.2.1 33 17 j = σ.2.1 33 17 j ∧ σ.2.1 33 18 j = σ.2.1 33 18 j ∧ σ.2.1 33 19 j = σ.2.1 33 19 j := fun _ _ => ⟨rfl, rfl, rfl⟩
  have hsg : amA 6 f p lim = some 4 := by rw [amA_in hp, am_6 _ hfp0, hfp]; rfl
  have hal : aLen (f p) = 3 := by rw [hfp]; rfl
  by_cases h1 : p + 1 < lim ∧ 48 ≤ f (p + 1) ∧ f (p + 1) ≤ 57
  · have hf1 := hfb (p + 1) (by omega)
    have e2 : f (p + 1 + 1) = f (p + 2) := rfl
    by_cases h2 : p + 1 + 1 < lim ∧ 48 ≤ f (p + 1 + 1) ∧ f (p + 1 + 1) ≤ 57
    · have hf2 := hfb (p + 2) (by omega)
      have ec : aOne f lim p = (true, p + 3) := by
        unfold aOne
        rw [if_neg (by rw [hal]; decide)]
        rw [if_neg (by omega)]
        rw [if_neg (show ¬ fAct (f p) 1 (f (p + 1)) = false by unfold fAct; rw [if_neg (by omega)]; rw [decide_eq_true (by omega)]; decide)]
        rw [if_neg (by rw [hal]; decide), if_neg (by omega)]
        rw [if_neg (show ¬ fAct (f p) 2 (f (p + 2)) = false by unfold fAct; rw [if_neg (by omega)]; rw [decide_eq_true (show (48 ≤ f (p + 2) ∧ f (p + 2) ≤ 57) ∧ ¬ (f p = 112 ∧ f (p + 2) = 48) by omega)]; decide)]
      refine go_aload_n (i := 0) (pc := 0) dX12_readsAct_0 rfl rfl ?_
      refine go_geti fl_X12_340 (pc := 1) dX12_readsAct_1 (by rfl) ?_
      rw [h35]
      refine go_istore_n (i := 1) (pc := 4) dX12_readsAct_4 rfl (by decide) ?_
      refine go_aload_n (i := 0) (pc := 5) dX12_readsAct_5 rfl rfl ?_
      refine go_getr2 fl_X12_66 (pc := 6) dX12_readsAct_6 (by rfl) (by rfl) (by rfl) ?_
      refine go_iload_n (i := 1) (pc := 9) dX12_readsAct_9 rfl rfl ?_
      refine go_aload_n (i := 0) (pc := 10) dX12_readsAct_10 rfl rfl ?_
      refine go_ldcwS 6 rfl rfl (pc := 11) dX12_readsAct_11 ?_
      refine go_callV ml_X12_172 mt_X12_takesOf (pc := 14) dX12_readsAct_14 (c_X12_takesOf (ti := 6) hK (by decide)) (by rfl) rfl (by rfl) (by decide) (by decide) rfl rfl (Nat.le_of_ble_eq_true rfl) (fun r σ' hp2 => ?_)
      obtain ⟨rfl, Ka, hFd⟩ := hp2
      dsimp only [zRet]
      rw [hsg] at Ka ⊢
      dsimp only [gM] at Ka ⊢
      have Ft1 := Fr9.rf.tr (hFd.mono (fs2 := [16, 35]) (js2 := [17, 18, 19]) (by simp) (by simp))
      have At1 : σ'.1 33 35 = (nI k) := by rw [hFd.2.1 _ (by decide)]; exact h35
      have Lt1 : ∀ j, j < k → σ'.2.1 33 17 j = σ.2.1 33 17 j ∧ σ'.2.1 33 18 j = σ.2.1 33 18 j ∧ σ'.2.1 33 19 j = σ.2.1 33 19 j := fun j hj => by rw [hFd.2.2.1 17 (by decide), hFd.2.2.1 18 (by decide), hFd.2.2.1 19 (by decide)]; exact L00 j hj
      generalize σ' = t1 at Ft1 At1 Lt1 Ka ⊢
      refine go_iastore k (pc := 17) dX12_readsAct_17 rfl rfl rfl (by omega) ?_
      have Ft2 : Fr9 [16, 35] [17, 18, 19] σ (uA t1 33 17 (upd (t1.2.1 33 17) k (nI 4))) := Ft1.uA (by simp)
      have Kt2 : Cur (uA t1 33 17 (upd (t1.2.1 33 17) k (nI 4))) f _ lim := Ka.fr (fs := []) (js := [17]) (Fr9.rf.uA (by simp)) (by decide) (by decide) (by decide)
      have At2 : (uA t1 33 17 (upd (t1.2.1 33 17) k (nI 4))).1 33 35 = (nI k) := At1
      have Lt2 : ∀ j, j < k → (uA t1 33 17 (upd (t1.2.1 33 17) k (nI 4))).2.1 33 17 j = σ.2.1 33 17 j ∧ (uA t1 33 17 (upd (t1.2.1 33 17) k (nI 4))).2.1 33 18 j = σ.2.1 33 18 j ∧ (uA t1 33 17 (upd (t1.2.1 33 17) k (nI 4))).2.1 33 19 j = σ.2.1 33 19 j := fun j hj => by
        have h := Lt1 j hj
        refine ⟨?_, ?_, ?_⟩
        · rw [uA_2]; first | (rw [if_neg (by decide)]; exact h.1) | (rw [if_pos (by decide), upd_at, if_neg (by omega)]; exact h.1)
        · rw [uA_2]; first | (rw [if_neg (by decide)]; exact h.2.1) | (rw [if_pos (by decide), upd_at, if_neg (by omega)]; exact h.2.1)
        · rw [uA_2]; first | (rw [if_neg (by decide)]; exact h.2.2) | (rw [if_pos (by decide), upd_at, if_neg (by omega)]; exact h.2.2)
      have R17t2 : (uA t1 33 17 (upd (t1.2.1 33 17) k (nI 4))).2.1 33 17 k = (nI 4) := by rw [uA_s, upd_at, if_pos rfl]
      generalize (uA t1 33 17 (upd (t1.2.1 33 17) k (nI 4))) = t2 at Ft2 Kt2 At2 Lt2 R17t2 ⊢
      refine go_aload_n (i := 0) (pc := 18) dX12_readsAct_18 rfl rfl ?_
      refine go_dup (pc := 19) dX12_readsAct_19 rfl ?_
      refine go_geti fl_X12_340 (pc := 20) dX12_readsAct_20 (by rfl) ?_
      rw [At2]
      refine go_iconst (nI 1) (pc := 23) dX12_readsAct_23 (by decide) ?_
      first | with_reducible refine go_iaddN (pc := 24) dX12_readsAct_24 ?_ | refine go_iadd (pc := 24) dX12_readsAct_24 ?_
      refine go_puti fp_X12_340 (pc := 25) dX12_readsAct_25 (by rfl) rfl rfl ?_
      have Ft3 : Fr9 [16, 35] [17, 18, 19] σ (uS t2 33 35 (nI (k + 1))) := Ft2.uS (by simp)
      have Kt3 : Cur (uS t2 33 35 (nI (k + 1))) f _ lim := Kt2.fr (fs := [35]) (js := []) (Fr9.rf.uS (by simp)) (by decide) (by decide) (by decide)
      have At3 : (uS t2 33 35 (nI (k + 1))).1 33 35 = (nI (k + 1)) := uS_s _ _ _ _
      have Lt3 : ∀ j, j < k → (uS t2 33 35 (nI (k + 1))).2.1 33 17 j = σ.2.1 33 17 j ∧ (uS t2 33 35 (nI (k + 1))).2.1 33 18 j = σ.2.1 33 18 j ∧ (uS t2 33 35 (nI (k + 1))).2.1 33 19 j = σ.2.1 33 19 j := Lt2
      have R17t3 : (uS t2 33 35 (nI (k + 1))).2.1 33 17 k = (nI 4) := R17t2
      generalize (uS t2 33 35 (nI (k + 1))) = t3 at Ft3 Kt3 At3 Lt3 R17t3 ⊢
      refine go_aload_n (i := 0) (pc := 28) dX12_readsAct_28 rfl rfl ?_
      refine go_getr2 fl_X12_66 (pc := 29) dX12_readsAct_29 (by rfl) (by rfl) (by rfl) ?_
      refine go_iload_n (i := 1) (pc := 32) dX12_readsAct_32 rfl rfl ?_
      refine go_iaload _ (pc := 33) dX12_readsAct_33 (by first | rfl | (apply zM_ar <;> assumption)) (by first | rfl | (apply zM_jn <;> assumption)) rfl (by first | assumption | omega) ?_
      rw [R17t3]
      refine go_tableIn 187 (off := 153) (pc := 34) dX12_readsAct_34 (by decide) (by decide) (by decide) (by decide) ?_
      refine go_aload_n (i := 0) (pc := 187) dX12_readsAct_187 rfl rfl ?_
      refine go_getr2 fl_X12_69 (pc := 188) dX12_readsAct_188 (by rfl) (by rfl) (by rfl) ?_
      refine go_iload_n (i := 1) (pc := 191) dX12_readsAct_191 rfl rfl ?_
      refine go_aload_n (i := 0) (pc := 192) dX12_readsAct_192 rfl rfl ?_
      refine go_callV ml_X12_347 mt_X12_twoDigits (pc := 193) dX12_readsAct_193 (c_X12_twoDigits Kt3) (by rfl) rfl (by rfl) (by decide) (by decide) rfl rfl (Nat.le_of_ble_eq_true rfl) (fun r σ' hp2 => ?_)
      obtain ⟨rfl, Kb, hFe⟩ := hp2
      dsimp only [zRet]
      rw [if_pos h1, if_pos h2] at Kb ⊢
      have Ft4 := Ft3.tr (hFe.mono (fs2 := [16, 35]) (js2 := [17, 18, 19]) (by simp) (by simp))
      have At4 : σ'.1 33 35 = (nI (k + 1)) := by rw [hFe.2.1 _ (by decide)]; exact At3
      have Lt4 : ∀ j, j < k → σ'.2.1 33 17 j = σ.2.1 33 17 j ∧ σ'.2.1 33 18 j = σ.2.1 33 18 j ∧ σ'.2.1 33 19 j = σ.2.1 33 19 j := fun j hj => by rw [hFe.2.2.1 17 (by decide), hFe.2.2.1 18 (by decide), hFe.2.2.1 19 (by decide)]; exact Lt3 j hj
      have R17t4 : σ'.2.1 33 17 k = (nI 4) := by rw [hFe.2.2.1 17 (by decide)]; exact R17t3
      generalize σ' = t4 at Ft4 At4 Lt4 Kb R17t4 ⊢
      refine go_iastore k (pc := 196) dX12_readsAct_196 rfl rfl rfl (by omega) ?_
      have Ft5 : Fr9 [16, 35] [17, 18, 19] σ (uA t4 33 18 (upd (t4.2.1 33 18) k (nI (10 * (f (p + 1) - 48) + (f (p + 2) - 48))))) := Ft4.uA (by simp)
      have Kt5 : Cur (uA t4 33 18 (upd (t4.2.1 33 18) k (nI (10 * (f (p + 1) - 48) + (f (p + 2) - 48))))) f _ lim := Kb.fr (fs := []) (js := [18]) (Fr9.rf.uA (by simp)) (by decide) (by decide) (by decide)
      have At5 : (uA t4 33 18 (upd (t4.2.1 33 18) k (nI (10 * (f (p + 1) - 48) + (f (p + 2) - 48))))).1 33 35 = (nI (k + 1)) := At4
      have Lt5 : ∀ j, j < k → (uA t4 33 18 (upd (t4.2.1 33 18) k (nI (10 * (f (p + 1) - 48) + (f (p + 2) - 48))))).2.1 33 17 j = σ.2.1 33 17 j ∧ (uA t4 33 18 (upd (t4.2.1 33 18) k (nI (10 * (f (p + 1) - 48) + (f (p + 2) - 48))))).2.1 33 18 j = σ.2.1 33 18 j ∧ (uA t4 33 18 (upd (t4.2.1 33 18) k (nI (10 * (f (p + 1) - 48) + (f (p + 2) - 48))))).2.1 33 19 j = σ.2.1 33 19 j := fun j hj => by
        have h := Lt4 j hj
        refine ⟨?_, ?_, ?_⟩
        · rw [uA_2]; first | (rw [if_neg (by decide)]; exact h.1) | (rw [if_pos (by decide), upd_at, if_neg (by omega)]; exact h.1)
        · rw [uA_2]; first | (rw [if_neg (by decide)]; exact h.2.1) | (rw [if_pos (by decide), upd_at, if_neg (by omega)]; exact h.2.1)
        · rw [uA_2]; first | (rw [if_neg (by decide)]; exact h.2.2) | (rw [if_pos (by decide), upd_at, if_neg (by omega)]; exact h.2.2)
      have R17t5 : (uA t4 33 18 (upd (t4.2.1 33 18) k (nI (10 * (f (p + 1) - 48) + (f (p + 2) - 48))))).2.1 33 17 k = (nI 4) := by rw [uA_2, if_neg (by decide)]; exact R17t4
      have R18t5 : (uA t4 33 18 (upd (t4.2.1 33 18) k (nI (10 * (f (p + 1) - 48) + (f (p + 2) - 48))))).2.1 33 18 k = (nI (10 * (f (p + 1) - 48) + (f (p + 2) - 48))) := by rw [uA_s, upd_at, if_pos rfl]
      generalize (uA t4 33 18 (upd (t4.2.1 33 18) k (nI (10 * (f (p + 1) - 48) + (f (p + 2) - 48))))) = t5 at Ft5 Kt5 At5 Lt5 R17t5 R18t5 ⊢
      refine go_aload_n (i := 0) (pc := 197) dX12_readsAct_197 rfl rfl ?_
      refine go_getr2 fl_X12_69 (pc := 198) dX12_readsAct_198 (by rfl) (by rfl) (by rfl) ?_
      refine go_iload_n (i := 1) (pc := 201) dX12_readsAct_201 rfl rfl ?_
      refine go_iaload _ (pc := 202) dX12_readsAct_202 (by first | rfl | (apply zM_ar <;> assumption)) (by first | rfl | (apply zM_jn <;> assumption)) rfl (by first | assumption | omega) ?_
      rw [R18t5]
      refine go_if_lt 210 (pc := 203) dX12_readsAct_203 (by decide) (fun h203 => ?_) (fun h203 => ?_)
      · exact absurd h203 (nI_pos (by omega))
      · refine go_iconst (nI 1) (pc := 206) dX12_readsAct_206 (by decide) ?_
        refine go_goto 211 (pc := 207) dX12_readsAct_207 (by decide) ?_
        refine go_zreturn (pc := 211) dX12_readsAct_211 rfl rfl ?_
        rw [ec]
        exact ⟨rfl, Kt5, fun _ => ⟨At5, by rw [R17t5, hfp]; rfl, by rw [R18t5]; unfold aV1; rw [hfp]; rfl, fun h => by omega⟩, Lt5, Ft5⟩
    · skip
      have ec : aOne f lim p = (false, p + 2) := by
        unfold aOne
        rw [if_neg (by rw [hal]; decide)]
        rw [if_neg (by omega)]
        rw [if_neg (show ¬ fAct (f p) 1 (f (p + 1)) = false by unfold fAct; rw [if_neg (by omega)]; rw [decide_eq_true (by omega)]; decide)]
        rw [if_neg (by rw [hal]; decide)]
        by_cases hl : lim ≤ p + 2
        · rw [if_pos hl, show lim = p + 2 by omega]
        · rw [if_neg hl, if_pos (show fAct (f p) 2 (f (p + 2)) = false by unfold fAct; rw [if_neg (by omega)]; exact decide_eq_false (by omega))]
      refine go_aload_n (i := 0) (pc := 0) dX12_readsAct_0 rfl rfl ?_
      refine go_geti fl_X12_340 (pc := 1) dX12_readsAct_1 (by rfl) ?_
      rw [h35]
      refine go_istore_n (i := 1) (pc := 4) dX12_readsAct_4 rfl (by decide) ?_
      refine go_aload_n (i := 0) (pc := 5) dX12_readsAct_5 rfl rfl ?_
      refine go_getr2 fl_X12_66 (pc := 6) dX12_readsAct_6 (by rfl) (by rfl) (by rfl) ?_
      refine go_iload_n (i := 1) (pc := 9) dX12_readsAct_9 rfl rfl ?_
      refine go_aload_n (i := 0) (pc := 10) dX12_readsAct_10 rfl rfl ?_
      refine go_ldcwS 6 rfl rfl (pc := 11) dX12_readsAct_11 ?_
      refine go_callV ml_X12_172 mt_X12_takesOf (pc := 14) dX12_readsAct_14 (c_X12_takesOf (ti := 6) hK (by decide)) (by rfl) rfl (by rfl) (by decide) (by decide) rfl rfl (Nat.le_of_ble_eq_true rfl) (fun r σ' hp2 => ?_)
      obtain ⟨rfl, Ka, hFd⟩ := hp2
      dsimp only [zRet]
      rw [hsg] at Ka ⊢
      dsimp only [gM] at Ka ⊢
      have Ft1 := Fr9.rf.tr (hFd.mono (fs2 := [16, 35]) (js2 := [17, 18, 19]) (by simp) (by simp))
      have At1 : σ'.1 33 35 = (nI k) := by rw [hFd.2.1 _ (by decide)]; exact h35
      have Lt1 : ∀ j, j < k → σ'.2.1 33 17 j = σ.2.1 33 17 j ∧ σ'.2.1 33 18 j = σ.2.1 33 18 j ∧ σ'.2.1 33 19 j = σ.2.1 33 19 j := fun j hj => by rw [hFd.2.2.1 17 (by decide), hFd.2.2.1 18 (by decide), hFd.2.2.1 19 (by decide)]; exact L00 j hj
      generalize σ' = t1 at Ft1 At1 Lt1 Ka ⊢
      refine go_iastore k (pc := 17) dX12_readsAct_17 rfl rfl rfl (by omega) ?_
      have Ft2 : Fr9 [16, 35] [17, 18, 19] σ (uA t1 33 17 (upd (t1.2.1 33 17) k (nI 4))) := Ft1.uA (by simp)
      have Kt2 : Cur (uA t1 33 17 (upd (t1.2.1 33 17) k (nI 4))) f _ lim := Ka.fr (fs := []) (js := [17]) (Fr9.rf.uA (by simp)) (by decide) (by decide) (by decide)
      have At2 : (uA t1 33 17 (upd (t1.2.1 33 17) k (nI 4))).1 33 35 = (nI k) := At1
      have Lt2 : ∀ j, j < k → (uA t1 33 17 (upd (t1.2.1 33 17) k (nI 4))).2.1 33 17 j = σ.2.1 33 17 j ∧ (uA t1 33 17 (upd (t1.2.1 33 17) k (nI 4))).2.1 33 18 j = σ.2.1 33 18 j ∧ (uA t1 33 17 (upd (t1.2.1 33 17) k (nI 4))).2.1 33 19 j = σ.2.1 33 19 j := fun j hj => by
        have h := Lt1 j hj
        refine ⟨?_, ?_, ?_⟩
        · rw [uA_2]; first | (rw [if_neg (by decide)]; exact h.1) | (rw [if_pos (by decide), upd_at, if_neg (by omega)]; exact h.1)
        · rw [uA_2]; first | (rw [if_neg (by decide)]; exact h.2.1) | (rw [if_pos (by decide), upd_at, if_neg (by omega)]; exact h.2.1)
        · rw [uA_2]; first | (rw [if_neg (by decide)]; exact h.2.2) | (rw [if_pos (by decide), upd_at, if_neg (by omega)]; exact h.2.2)
      have R17t2 : (uA t1 33 17 (upd (t1.2.1 33 17) k (nI 4))).2.1 33 17 k = (nI 4) := by rw [uA_s, upd_at, if_pos rfl]
      generalize (uA t1 33 17 (upd (t1.2.1 33 17) k (nI 4))) = t2 at Ft2 Kt2 At2 Lt2 R17t2 ⊢
      refine go_aload_n (i := 0) (pc := 18) dX12_readsAct_18 rfl rfl ?_
      refine go_dup (pc := 19) dX12_readsAct_19 rfl ?_
      refine go_geti fl_X12_340 (pc := 20) dX12_readsAct_20 (by rfl) ?_
      rw [At2]
      refine go_iconst (nI 1) (pc := 23) dX12_readsAct_23 (by decide) ?_
      first | with_reducible refine go_iaddN (pc := 24) dX12_readsAct_24 ?_ | refine go_iadd (pc := 24) dX12_readsAct_24 ?_
      refine go_puti fp_X12_340 (pc := 25) dX12_readsAct_25 (by rfl) rfl rfl ?_
      have Ft3 : Fr9 [16, 35] [17, 18, 19] σ (uS t2 33 35 (nI (k + 1))) := Ft2.uS (by simp)
      have Kt3 : Cur (uS t2 33 35 (nI (k + 1))) f _ lim := Kt2.fr (fs := [35]) (js := []) (Fr9.rf.uS (by simp)) (by decide) (by decide) (by decide)
      have At3 : (uS t2 33 35 (nI (k + 1))).1 33 35 = (nI (k + 1)) := uS_s _ _ _ _
      have Lt3 : ∀ j, j < k → (uS t2 33 35 (nI (k + 1))).2.1 33 17 j = σ.2.1 33 17 j ∧ (uS t2 33 35 (nI (k + 1))).2.1 33 18 j = σ.2.1 33 18 j ∧ (uS t2 33 35 (nI (k + 1))).2.1 33 19 j = σ.2.1 33 19 j := Lt2
      have R17t3 : (uS t2 33 35 (nI (k + 1))).2.1 33 17 k = (nI 4) := R17t2
      generalize (uS t2 33 35 (nI (k + 1))) = t3 at Ft3 Kt3 At3 Lt3 R17t3 ⊢
      refine go_aload_n (i := 0) (pc := 28) dX12_readsAct_28 rfl rfl ?_
      refine go_getr2 fl_X12_66 (pc := 29) dX12_readsAct_29 (by rfl) (by rfl) (by rfl) ?_
      refine go_iload_n (i := 1) (pc := 32) dX12_readsAct_32 rfl rfl ?_
      refine go_iaload _ (pc := 33) dX12_readsAct_33 (by first | rfl | (apply zM_ar <;> assumption)) (by first | rfl | (apply zM_jn <;> assumption)) rfl (by first | assumption | omega) ?_
      rw [R17t3]
      refine go_tableIn 187 (off := 153) (pc := 34) dX12_readsAct_34 (by decide) (by decide) (by decide) (by decide) ?_
      refine go_aload_n (i := 0) (pc := 187) dX12_readsAct_187 rfl rfl ?_
      refine go_getr2 fl_X12_69 (pc := 188) dX12_readsAct_188 (by rfl) (by rfl) (by rfl) ?_
      refine go_iload_n (i := 1) (pc := 191) dX12_readsAct_191 rfl rfl ?_
      refine go_aload_n (i := 0) (pc := 192) dX12_readsAct_192 rfl rfl ?_
      refine go_callV ml_X12_347 mt_X12_twoDigits (pc := 193) dX12_readsAct_193 (c_X12_twoDigits Kt3) (by rfl) rfl (by rfl) (by decide) (by decide) rfl rfl (Nat.le_of_ble_eq_true rfl) (fun r σ' hp2 => ?_)
      obtain ⟨rfl, Kb, hFe⟩ := hp2
      dsimp only [zRet]
      rw [if_pos h1, if_neg h2] at Kb ⊢
      have Ft4 := Ft3.tr (hFe.mono (fs2 := [16, 35]) (js2 := [17, 18, 19]) (by simp) (by simp))
      have At4 : σ'.1 33 35 = (nI (k + 1)) := by rw [hFe.2.1 _ (by decide)]; exact At3
      have Lt4 : ∀ j, j < k → σ'.2.1 33 17 j = σ.2.1 33 17 j ∧ σ'.2.1 33 18 j = σ.2.1 33 18 j ∧ σ'.2.1 33 19 j = σ.2.1 33 19 j := fun j hj => by rw [hFe.2.2.1 17 (by decide), hFe.2.2.1 18 (by decide), hFe.2.2.1 19 (by decide)]; exact Lt3 j hj
      have R17t4 : σ'.2.1 33 17 k = (nI 4) := by rw [hFe.2.2.1 17 (by decide)]; exact R17t3
      generalize σ' = t4 at Ft4 At4 Lt4 Kb R17t4 ⊢
      refine go_iastore k (pc := 196) dX12_readsAct_196 rfl rfl rfl (by omega) ?_
      have Ft5 : Fr9 [16, 35] [17, 18, 19] σ (uA t4 33 18 (upd (t4.2.1 33 18) k (-1))) := Ft4.uA (by simp)
      have Kt5 : Cur (uA t4 33 18 (upd (t4.2.1 33 18) k (-1))) f _ lim := Kb.fr (fs := []) (js := [18]) (Fr9.rf.uA (by simp)) (by decide) (by decide) (by decide)
      have At5 : (uA t4 33 18 (upd (t4.2.1 33 18) k (-1))).1 33 35 = (nI (k + 1)) := At4
      have Lt5 : ∀ j, j < k → (uA t4 33 18 (upd (t4.2.1 33 18) k (-1))).2.1 33 17 j = σ.2.1 33 17 j ∧ (uA t4 33 18 (upd (t4.2.1 33 18) k (-1))).2.1 33 18 j = σ.2.1 33 18 j ∧ (uA t4 33 18 (upd (t4.2.1 33 18) k (-1))).2.1 33 19 j = σ.2.1 33 19 j := fun j hj => by
        have h := Lt4 j hj
        refine ⟨?_, ?_, ?_⟩
        · rw [uA_2]; first | (rw [if_neg (by decide)]; exact h.1) | (rw [if_pos (by decide), upd_at, if_neg (by omega)]; exact h.1)
        · rw [uA_2]; first | (rw [if_neg (by decide)]; exact h.2.1) | (rw [if_pos (by decide), upd_at, if_neg (by omega)]; exact h.2.1)
        · rw [uA_2]; first | (rw [if_neg (by decide)]; exact h.2.2) | (rw [if_pos (by decide), upd_at, if_neg (by omega)]; exact h.2.2)
      have R17t5 : (uA t4 33 18 (upd (t4.2.1 33 18) k (-1))).2.1 33 17 k = (nI 4) := by rw [uA_2, if_neg (by decide)]; exact R17t4
      have R18t5 : (uA t4 33 18 (upd (t4.2.1 33 18) k (-1))).2.1 33 18 k = (-1) := by rw [uA_s, upd_at, if_pos rfl]
      generalize (uA t4 33 18 (upd (t4.2.1 33 18) k (-1))) = t5 at Ft5 Kt5 At5 Lt5 R17t5 R18t5 ⊢
      refine go_aload_n (i := 0) (pc := 197) dX12_readsAct_197 rfl rfl ?_
      refine go_getr2 fl_X12_69 (pc := 198) dX12_readsAct_198 (by rfl) (by rfl) (by rfl) ?_
      refine go_iload_n (i := 1) (pc := 201) dX12_readsAct_201 rfl rfl ?_
      refine go_iaload _ (pc := 202) dX12_readsAct_202 (by first | rfl | (apply zM_ar <;> assumption)) (by first | rfl | (apply zM_jn <;> assumption)) rfl (by first | assumption | omega) ?_
      rw [R18t5]
      refine go_if_lt 210 (pc := 203) dX12_readsAct_203 (by decide) (fun h203 => ?_) (fun h203 => ?_)
      · refine go_iconst (nI 0) (pc := 210) dX12_readsAct_210 (by decide) ?_
        refine go_zreturn (pc := 211) dX12_readsAct_211 rfl rfl ?_
        rw [ec]
        exact ⟨rfl, Kt5, fun h => (by cases h), Lt5, Ft5⟩
      · exact absurd (by decide) h203
  · skip
    have ec : aOne f lim p = (false, p + 1) := by
      unfold aOne
      rw [if_neg (by rw [hal]; decide)]
      by_cases hl : lim ≤ p + 1
      · rw [if_pos hl, show lim = p + 1 by omega]
      · rw [if_neg hl, if_pos (show fAct (f p) 1 (f (p + 1)) = false by unfold fAct; rw [if_neg (by omega)]; exact decide_eq_false (by omega))]
    refine go_aload_n (i := 0) (pc := 0) dX12_readsAct_0 rfl rfl ?_
    refine go_geti fl_X12_340 (pc := 1) dX12_readsAct_1 (by rfl) ?_
    rw [h35]
    refine go_istore_n (i := 1) (pc := 4) dX12_readsAct_4 rfl (by decide) ?_
    refine go_aload_n (i := 0) (pc := 5) dX12_readsAct_5 rfl rfl ?_
    refine go_getr2 fl_X12_66 (pc := 6) dX12_readsAct_6 (by rfl) (by rfl) (by rfl) ?_
    refine go_iload_n (i := 1) (pc := 9) dX12_readsAct_9 rfl rfl ?_
    refine go_aload_n (i := 0) (pc := 10) dX12_readsAct_10 rfl rfl ?_
    refine go_ldcwS 6 rfl rfl (pc := 11) dX12_readsAct_11 ?_
    refine go_callV ml_X12_172 mt_X12_takesOf (pc := 14) dX12_readsAct_14 (c_X12_takesOf (ti := 6) hK (by decide)) (by rfl) rfl (by rfl) (by decide) (by decide) rfl rfl (Nat.le_of_ble_eq_true rfl) (fun r σ' hp2 => ?_)
    obtain ⟨rfl, Ka, hFd⟩ := hp2
    dsimp only [zRet]
    rw [hsg] at Ka ⊢
    dsimp only [gM] at Ka ⊢
    have Ft1 := Fr9.rf.tr (hFd.mono (fs2 := [16, 35]) (js2 := [17, 18, 19]) (by simp) (by simp))
    have At1 : σ'.1 33 35 = (nI k) := by rw [hFd.2.1 _ (by decide)]; exact h35
    have Lt1 : ∀ j, j < k → σ'.2.1 33 17 j = σ.2.1 33 17 j ∧ σ'.2.1 33 18 j = σ.2.1 33 18 j ∧ σ'.2.1 33 19 j = σ.2.1 33 19 j := fun j hj => by rw [hFd.2.2.1 17 (by decide), hFd.2.2.1 18 (by decide), hFd.2.2.1 19 (by decide)]; exact L00 j hj
    generalize σ' = t1 at Ft1 At1 Lt1 Ka ⊢
    refine go_iastore k (pc := 17) dX12_readsAct_17 rfl rfl rfl (by omega) ?_
    have Ft2 : Fr9 [16, 35] [17, 18, 19] σ (uA t1 33 17 (upd (t1.2.1 33 17) k (nI 4))) := Ft1.uA (by simp)
    have Kt2 : Cur (uA t1 33 17 (upd (t1.2.1 33 17) k (nI 4))) f _ lim := Ka.fr (fs := []) (js := [17]) (Fr9.rf.uA (by simp)) (by decide) (by decide) (by decide)
    have At2 : (uA t1 33 17 (upd (t1.2.1 33 17) k (nI 4))).1 33 35 = (nI k) := At1
    have Lt2 : ∀ j, j < k → (uA t1 33 17 (upd (t1.2.1 33 17) k (nI 4))).2.1 33 17 j = σ.2.1 33 17 j ∧ (uA t1 33 17 (upd (t1.2.1 33 17) k (nI 4))).2.1 33 18 j = σ.2.1 33 18 j ∧ (uA t1 33 17 (upd (t1.2.1 33 17) k (nI 4))).2.1 33 19 j = σ.2.1 33 19 j := fun j hj => by
      have h := Lt1 j hj
      refine ⟨?_, ?_, ?_⟩
      · rw [uA_2]; first | (rw [if_neg (by decide)]; exact h.1) | (rw [if_pos (by decide), upd_at, if_neg (by omega)]; exact h.1)
      · rw [uA_2]; first | (rw [if_neg (by decide)]; exact h.2.1) | (rw [if_pos (by decide), upd_at, if_neg (by omega)]; exact h.2.1)
      · rw [uA_2]; first | (rw [if_neg (by decide)]; exact h.2.2) | (rw [if_pos (by decide), upd_at, if_neg (by omega)]; exact h.2.2)
    have R17t2 : (uA t1 33 17 (upd (t1.2.1 33 17) k (nI 4))).2.1 33 17 k = (nI 4) := by rw [uA_s, upd_at, if_pos rfl]
    generalize (uA t1 33 17 (upd (t1.2.1 33 17) k (nI 4))) = t2 at Ft2 Kt2 At2 Lt2 R17t2 ⊢
    refine go_aload_n (i := 0) (pc := 18) dX12_readsAct_18 rfl rfl ?_
    refine go_dup (pc := 19) dX12_readsAct_19 rfl ?_
    refine go_geti fl_X12_340 (pc := 20) dX12_readsAct_20 (by rfl) ?_
    rw [At2]
    refine go_iconst (nI 1) (pc := 23) dX12_readsAct_23 (by decide) ?_
    first | with_reducible refine go_iaddN (pc := 24) dX12_readsAct_24 ?_ | refine go_iadd (pc := 24) dX12_readsAct_24 ?_
    refine go_puti fp_X12_340 (pc := 25) dX12_readsAct_25 (by rfl) rfl rfl ?_
    have Ft3 : Fr9 [16, 35] [17, 18, 19] σ (uS t2 33 35 (nI (k + 1))) := Ft2.uS (by simp)
    have Kt3 : Cur (uS t2 33 35 (nI (k + 1))) f _ lim := Kt2.fr (fs := [35]) (js := []) (Fr9.rf.uS (by simp)) (by decide) (by decide) (by decide)
    have At3 : (uS t2 33 35 (nI (k + 1))).1 33 35 = (nI (k + 1)) := uS_s _ _ _ _
    have Lt3 : ∀ j, j < k → (uS t2 33 35 (nI (k + 1))).2.1 33 17 j = σ.2.1 33 17 j ∧ (uS t2 33 35 (nI (k + 1))).2.1 33 18 j = σ.2.1 33 18 j ∧ (uS t2 33 35 (nI (k + 1))).2.1 33 19 j = σ.2.1 33 19 j := Lt2
    have R17t3 : (uS t2 33 35 (nI (k + 1))).2.1 33 17 k = (nI 4) := R17t2
    generalize (uS t2 33 35 (nI (k + 1))) = t3 at Ft3 Kt3 At3 Lt3 R17t3 ⊢
    refine go_aload_n (i := 0) (pc := 28) dX12_readsAct_28 rfl rfl ?_
    refine go_getr2 fl_X12_66 (pc := 29) dX12_readsAct_29 (by rfl) (by rfl) (by rfl) ?_
    refine go_iload_n (i := 1) (pc := 32) dX12_readsAct_32 rfl rfl ?_
    refine go_iaload _ (pc := 33) dX12_readsAct_33 (by first | rfl | (apply zM_ar <;> assumption)) (by first | rfl | (apply zM_jn <;> assumption)) rfl (by first | assumption | omega) ?_
    rw [R17t3]
    refine go_tableIn 187 (off := 153) (pc := 34) dX12_readsAct_34 (by decide) (by decide) (by decide) (by decide) ?_
    refine go_aload_n (i := 0) (pc := 187) dX12_readsAct_187 rfl rfl ?_
    refine go_getr2 fl_X12_69 (pc := 188) dX12_readsAct_188 (by rfl) (by rfl) (by rfl) ?_
    refine go_iload_n (i := 1) (pc := 191) dX12_readsAct_191 rfl rfl ?_
    refine go_aload_n (i := 0) (pc := 192) dX12_readsAct_192 rfl rfl ?_
    refine go_callV ml_X12_347 mt_X12_twoDigits (pc := 193) dX12_readsAct_193 (c_X12_twoDigits Kt3) (by rfl) rfl (by rfl) (by decide) (by decide) rfl rfl (Nat.le_of_ble_eq_true rfl) (fun r σ' hp2 => ?_)
    obtain ⟨rfl, Kb, hFe⟩ := hp2
    dsimp only [zRet]
    rw [if_neg h1] at Kb ⊢
    have Ft4 := Ft3.tr (hFe.mono (fs2 := [16, 35]) (js2 := [17, 18, 19]) (by simp) (by simp))
    have At4 : σ'.1 33 35 = (nI (k + 1)) := by rw [hFe.2.1 _ (by decide)]; exact At3
    have Lt4 : ∀ j, j < k → σ'.2.1 33 17 j = σ.2.1 33 17 j ∧ σ'.2.1 33 18 j = σ.2.1 33 18 j ∧ σ'.2.1 33 19 j = σ.2.1 33 19 j := fun j hj => by rw [hFe.2.2.1 17 (by decide), hFe.2.2.1 18 (by decide), hFe.2.2.1 19 (by decide)]; exact Lt3 j hj
    have R17t4 : σ'.2.1 33 17 k = (nI 4) := by rw [hFe.2.2.1 17 (by decide)]; exact R17t3
    generalize σ' = t4 at Ft4 At4 Lt4 Kb R17t4 ⊢
    refine go_iastore k (pc := 196) dX12_readsAct_196 rfl rfl rfl (by omega) ?_
    have Ft5 : Fr9 [16, 35] [17, 18, 19] σ (uA t4 33 18 (upd (t4.2.1 33 18) k (-1))) := Ft4.uA (by simp)
    have Kt5 : Cur (uA t4 33 18 (upd (t4.2.1 33 18) k (-1))) f _ lim := Kb.fr (fs := []) (js := [18]) (Fr9.rf.uA (by simp)) (by decide) (by decide) (by decide)
    have At5 : (uA t4 33 18 (upd (t4.2.1 33 18) k (-1))).1 33 35 = (nI (k + 1)) := At4
    have Lt5 : ∀ j, j < k → (uA t4 33 18 (upd (t4.2.1 33 18) k (-1))).2.1 33 17 j = σ.2.1 33 17 j ∧ (uA t4 33 18 (upd (t4.2.1 33 18) k (-1))).2.1 33 18 j = σ.2.1 33 18 j ∧ (uA t4 33 18 (upd (t4.2.1 33 18) k (-1))).2.1 33 19 j = σ.2.1 33 19 j := fun j hj => by
      have h := Lt4 j hj
      refine ⟨?_, ?_, ?_⟩
      · rw [uA_2]; first | (rw [if_neg (by decide)]; exact h.1) | (rw [if_pos (by decide), upd_at, if_neg (by omega)]; exact h.1)
      · rw [uA_2]; first | (rw [if_neg (by decide)]; exact h.2.1) | (rw [if_pos (by decide), upd_at, if_neg (by omega)]; exact h.2.1)
      · rw [uA_2]; first | (rw [if_neg (by decide)]; exact h.2.2) | (rw [if_pos (by decide), upd_at, if_neg (by omega)]; exact h.2.2)
    have R17t5 : (uA t4 33 18 (upd (t4.2.1 33 18) k (-1))).2.1 33 17 k = (nI 4) := by rw [uA_2, if_neg (by decide)]; exact R17t4
    have R18t5 : (uA t4 33 18 (upd (t4.2.1 33 18) k (-1))).2.1 33 18 k = (-1) := by rw [uA_s, upd_at, if_pos rfl]
    generalize (uA t4 33 18 (upd (t4.2.1 33 18) k (-1))) = t5 at Ft5 Kt5 At5 Lt5 R17t5 R18t5 ⊢
    refine go_aload_n (i := 0) (pc := 197) dX12_readsAct_197 rfl rfl ?_
    refine go_getr2 fl_X12_69 (pc := 198) dX12_readsAct_198 (by rfl) (by rfl) (by rfl) ?_
    refine go_iload_n (i := 1) (pc := 201) dX12_readsAct_201 rfl rfl ?_
    refine go_iaload _ (pc := 202) dX12_readsAct_202 (by first | rfl | (apply zM_ar <;> assumption)) (by first | rfl | (apply zM_jn <;> assumption)) rfl (by first | assumption | omega) ?_
    rw [R18t5]
    refine go_if_lt 210 (pc := 203) dX12_readsAct_203 (by decide) (fun h203 => ?_) (fun h203 => ?_)
    · refine go_iconst (nI 0) (pc := 210) dX12_readsAct_210 (by decide) ?_
      refine go_zreturn (pc := 211) dX12_readsAct_211 rfl rfl ?_
      rw [ec]
      exact ⟨rfl, Kt5, fun h => (by cases h), Lt5, Ft5⟩
    · exact absurd (by decide) h203

theorem c_readsAct5 {E : zE} {σ : zT} {f : Nat → Nat} {p lim k : Nat} (hK : Cur σ f p lim) (hp : p < lim) (h35 : σ.1 33 35 = nI k) (hk : k < 60) (hfp : f p = 100) : CalM E 6 yX12_readsAct cX12_readsAct 2 (some .boolean) [.ref (zA E 33 0)] σ (fun r σ' => r = some (.int (zb (aOne f lim p).1)) ∧ Cur σ' f (aOne f lim p).2 lim ∧ ((aOne f lim p).1 = true → σ'.1 33 35 = nI (k + 1) ∧ ActIs σ' f k p) ∧ (∀ j, j < k → σ'.2.1 33 17 j = σ.2.1 33 17 j ∧ σ'.2.1 33 18 j = σ.2.1 33 18 j ∧ σ'.2.1 33 19 j = σ.2.1 33 19 j) ∧ Fr9 [16, 35] [17, 18, 19] σ σ') := by
  refine cal_of_go (own := RX12) rfl (by decide +kernel) (Nat.le_of_ble_eq_true rfl) ?_
  have hfb := fun i (h : i < 80) => (hK.2.2.2.2 i h).2
  have hl80 := hK.2.2.2.1
  have hfp0 := hfb p (by omega)
  have L00 : ∀ j, j < k → σ.2.1 33 17 j = σ.2.1 33 17 j ∧ σ.2.1 33 18 j = σ.2.1 33 18 j ∧ σ.2.1 33 19 j = σ.2.1 33 19 j := fun _ _ => ⟨rfl, rfl, rfl⟩
  have hsg : amA 6 f p lim = some 5 := by rw [amA_in hp, am_6 _ hfp0, hfp]; rfl
  have hal : aLen (f p) = 3 := by rw [hfp]; rfl
  by_cases h1 : p + 1 < lim ∧ 48 ≤ f (p + 1) ∧ f (p + 1) ≤ 57
  · have hf1 := hfb (p + 1) (by omega)
    have e2 : f (p + 1 + 1) = f (p + 2) := rfl
    by_cases h2 : p + 1 + 1 < lim ∧ 48 ≤ f (p + 1 + 1) ∧ f (p + 1 + 1) ≤ 57
    · have hf2 := hfb (p + 2) (by omega)
      have ec : aOne f lim p = (true, p + 3) := by
        unfold aOne
        rw [if_neg (by rw [hal]; decide)]
        rw [if_neg (by omega)]
        rw [if_neg (show ¬ fAct (f p) 1 (f (p + 1)) = false by unfold fAct; rw [if_neg (by omega)]; rw [decide_eq_true (by omega)]; decide)]
        rw [if_neg (by rw [hal]; decide), if_neg (by omega)]
        rw [if_neg (show ¬ fAct (f p) 2 (f (p + 2)) = false by unfold fAct; rw [if_neg (by omega)]; rw [decide_eq_true (show (48 ≤ f (p + 2) ∧ f (p + 2) ≤ 57) ∧ ¬ (f p = 112 ∧ f (p + 2) = 48) by omega)]; decide)]
      refine go_aload_n (i := 0) (pc := 0) dX12_readsAct_0 rfl rfl ?_
      refine go_geti fl_X12_340 (pc := 1) dX12_readsAct_1 (by rfl) ?_
      rw [h35]
      refine go_istore_n (i := 1) (pc := 4) dX12_readsAct_4 rfl (by decide) ?_
      refine go_aload_n (i := 0) (pc := 5) dX12_readsAct_5 rfl rfl ?_
      refine go_getr2 fl_X12_66 (pc := 6) dX12_readsAct_6 (by rfl) (by rfl) (by rfl) ?_
      refine go_iload_n (i := 1) (pc := 9) dX12_readsAct_9 rfl rfl ?_
      refine go_aload_n (i := 0) (pc := 10) dX12_readsAct_10 rfl rfl ?_
      refine go_ldcwS 6 rfl rfl (pc := 11) dX12_readsAct_11 ?_
      refine go_callV ml_X12_172 mt_X12_takesOf (pc := 14) dX12_readsAct_14 (c_X12_takesOf (ti := 6) hK (by decide)) (by rfl) rfl (by rfl) (by decide) (by decide) rfl rfl (Nat.le_of_ble_eq_true rfl) (fun r σ' hp2 => ?_)
      obtain ⟨rfl, Ka, hFd⟩ := hp2
      dsimp only [zRet]
      rw [hsg] at Ka ⊢
      dsimp only [gM] at Ka ⊢
      have Ft1 := Fr9.rf.tr (hFd.mono (fs2 := [16, 35]) (js2 := [17, 18, 19]) (by simp) (by simp))
      have At1 : σ'.1 33 35 = (nI k) := by rw [hFd.2.1 _ (by decide)]; exact h35
      have Lt1 : ∀ j, j < k → σ'.2.1 33 17 j = σ.2.1 33 17 j ∧ σ'.2.1 33 18 j = σ.2.1 33 18 j ∧ σ'.2.1 33 19 j = σ.2.1 33 19 j := fun j hj => by rw [hFd.2.2.1 17 (by decide), hFd.2.2.1 18 (by decide), hFd.2.2.1 19 (by decide)]; exact L00 j hj
      generalize σ' = t1 at Ft1 At1 Lt1 Ka ⊢
      refine go_iastore k (pc := 17) dX12_readsAct_17 rfl rfl rfl (by omega) ?_
      have Ft2 : Fr9 [16, 35] [17, 18, 19] σ (uA t1 33 17 (upd (t1.2.1 33 17) k (nI 5))) := Ft1.uA (by simp)
      have Kt2 : Cur (uA t1 33 17 (upd (t1.2.1 33 17) k (nI 5))) f _ lim := Ka.fr (fs := []) (js := [17]) (Fr9.rf.uA (by simp)) (by decide) (by decide) (by decide)
      have At2 : (uA t1 33 17 (upd (t1.2.1 33 17) k (nI 5))).1 33 35 = (nI k) := At1
      have Lt2 : ∀ j, j < k → (uA t1 33 17 (upd (t1.2.1 33 17) k (nI 5))).2.1 33 17 j = σ.2.1 33 17 j ∧ (uA t1 33 17 (upd (t1.2.1 33 17) k (nI 5))).2.1 33 18 j = σ.2.1 33 18 j ∧ (uA t1 33 17 (upd (t1.2.1 33 17) k (nI 5))).2.1 33 19 j = σ.2.1 33 19 j := fun j hj => by
        have h := Lt1 j hj
        refine ⟨?_, ?_, ?_⟩
        · rw [uA_2]; first | (rw [if_neg (by decide)]; exact h.1) | (rw [if_pos (by decide), upd_at, if_neg (by omega)]; exact h.1)
        · rw [uA_2]; first | (rw [if_neg (by decide)]; exact h.2.1) | (rw [if_pos (by decide), upd_at, if_neg (by omega)]; exact h.2.1)
        · rw [uA_2]; first | (rw [if_neg (by decide)]; exact h.2.2) | (rw [if_pos (by decide), upd_at, if_neg (by omega)]; exact h.2.2)
      have R17t2 : (uA t1 33 17 (upd (t1.2.1 33 17) k (nI 5))).2.1 33 17 k = (nI 5) := by rw [uA_s, upd_at, if_pos rfl]
      generalize (uA t1 33 17 (upd (t1.2.1 33 17) k (nI 5))) = t2 at Ft2 Kt2 At2 Lt2 R17t2 ⊢
      refine go_aload_n (i := 0) (pc := 18) dX12_readsAct_18 rfl rfl ?_
      refine go_dup (pc := 19) dX12_readsAct_19 rfl ?_
      refine go_geti fl_X12_340 (pc := 20) dX12_readsAct_20 (by rfl) ?_
      rw [At2]
      refine go_iconst (nI 1) (pc := 23) dX12_readsAct_23 (by decide) ?_
      first | with_reducible refine go_iaddN (pc := 24) dX12_readsAct_24 ?_ | refine go_iadd (pc := 24) dX12_readsAct_24 ?_
      refine go_puti fp_X12_340 (pc := 25) dX12_readsAct_25 (by rfl) rfl rfl ?_
      have Ft3 : Fr9 [16, 35] [17, 18, 19] σ (uS t2 33 35 (nI (k + 1))) := Ft2.uS (by simp)
      have Kt3 : Cur (uS t2 33 35 (nI (k + 1))) f _ lim := Kt2.fr (fs := [35]) (js := []) (Fr9.rf.uS (by simp)) (by decide) (by decide) (by decide)
      have At3 : (uS t2 33 35 (nI (k + 1))).1 33 35 = (nI (k + 1)) := uS_s _ _ _ _
      have Lt3 : ∀ j, j < k → (uS t2 33 35 (nI (k + 1))).2.1 33 17 j = σ.2.1 33 17 j ∧ (uS t2 33 35 (nI (k + 1))).2.1 33 18 j = σ.2.1 33 18 j ∧ (uS t2 33 35 (nI (k + 1))).2.1 33 19 j = σ.2.1 33 19 j := Lt2
      have R17t3 : (uS t2 33 35 (nI (k + 1))).2.1 33 17 k = (nI 5) := R17t2
      generalize (uS t2 33 35 (nI (k + 1))) = t3 at Ft3 Kt3 At3 Lt3 R17t3 ⊢
      refine go_aload_n (i := 0) (pc := 28) dX12_readsAct_28 rfl rfl ?_
      refine go_getr2 fl_X12_66 (pc := 29) dX12_readsAct_29 (by rfl) (by rfl) (by rfl) ?_
      refine go_iload_n (i := 1) (pc := 32) dX12_readsAct_32 rfl rfl ?_
      refine go_iaload _ (pc := 33) dX12_readsAct_33 (by first | rfl | (apply zM_ar <;> assumption)) (by first | rfl | (apply zM_jn <;> assumption)) rfl (by first | assumption | omega) ?_
      rw [R17t3]
      refine go_tableIn 187 (off := 153) (pc := 34) dX12_readsAct_34 (by decide) (by decide) (by decide) (by decide) ?_
      refine go_aload_n (i := 0) (pc := 187) dX12_readsAct_187 rfl rfl ?_
      refine go_getr2 fl_X12_69 (pc := 188) dX12_readsAct_188 (by rfl) (by rfl) (by rfl) ?_
      refine go_iload_n (i := 1) (pc := 191) dX12_readsAct_191 rfl rfl ?_
      refine go_aload_n (i := 0) (pc := 192) dX12_readsAct_192 rfl rfl ?_
      refine go_callV ml_X12_347 mt_X12_twoDigits (pc := 193) dX12_readsAct_193 (c_X12_twoDigits Kt3) (by rfl) rfl (by rfl) (by decide) (by decide) rfl rfl (Nat.le_of_ble_eq_true rfl) (fun r σ' hp2 => ?_)
      obtain ⟨rfl, Kb, hFe⟩ := hp2
      dsimp only [zRet]
      rw [if_pos h1, if_pos h2] at Kb ⊢
      have Ft4 := Ft3.tr (hFe.mono (fs2 := [16, 35]) (js2 := [17, 18, 19]) (by simp) (by simp))
      have At4 : σ'.1 33 35 = (nI (k + 1)) := by rw [hFe.2.1 _ (by decide)]; exact At3
      have Lt4 : ∀ j, j < k → σ'.2.1 33 17 j = σ.2.1 33 17 j ∧ σ'.2.1 33 18 j = σ.2.1 33 18 j ∧ σ'.2.1 33 19 j = σ.2.1 33 19 j := fun j hj => by rw [hFe.2.2.1 17 (by decide), hFe.2.2.1 18 (by decide), hFe.2.2.1 19 (by decide)]; exact Lt3 j hj
      have R17t4 : σ'.2.1 33 17 k = (nI 5) := by rw [hFe.2.2.1 17 (by decide)]; exact R17t3
      generalize σ' = t4 at Ft4 At4 Lt4 Kb R17t4 ⊢
      refine go_iastore k (pc := 196) dX12_readsAct_196 rfl rfl rfl (by omega) ?_
      have Ft5 : Fr9 [16, 35] [17, 18, 19] σ (uA t4 33 18 (upd (t4.2.1 33 18) k (nI (10 * (f (p + 1) - 48) + (f (p + 2) - 48))))) := Ft4.uA (by simp)
      have Kt5 : Cur (uA t4 33 18 (upd (t4.2.1 33 18) k (nI (10 * (f (p + 1) - 48) + (f (p + 2) - 48))))) f _ lim := Kb.fr (fs := []) (js := [18]) (Fr9.rf.uA (by simp)) (by decide) (by decide) (by decide)
      have At5 : (uA t4 33 18 (upd (t4.2.1 33 18) k (nI (10 * (f (p + 1) - 48) + (f (p + 2) - 48))))).1 33 35 = (nI (k + 1)) := At4
      have Lt5 : ∀ j, j < k → (uA t4 33 18 (upd (t4.2.1 33 18) k (nI (10 * (f (p + 1) - 48) + (f (p + 2) - 48))))).2.1 33 17 j = σ.2.1 33 17 j ∧ (uA t4 33 18 (upd (t4.2.1 33 18) k (nI (10 * (f (p + 1) - 48) + (f (p + 2) - 48))))).2.1 33 18 j = σ.2.1 33 18 j ∧ (uA t4 33 18 (upd (t4.2.1 33 18) k (nI (10 * (f (p + 1) - 48) + (f (p + 2) - 48))))).2.1 33 19 j = σ.2.1 33 19 j := fun j hj => by
        have h := Lt4 j hj
        refine ⟨?_, ?_, ?_⟩
        · rw [uA_2]; first | (rw [if_neg (by decide)]; exact h.1) | (rw [if_pos (by decide), upd_at, if_neg (by omega)]; exact h.1)
        · rw [uA_2]; first | (rw [if_neg (by decide)]; exact h.2.1) | (rw [if_pos (by decide), upd_at, if_neg (by omega)]; exact h.2.1)
        · rw [uA_2]; first | (rw [if_neg (by decide)]; exact h.2.2) | (rw [if_pos (by decide), upd_at, if_neg (by omega)]; exact h.2.2)
      have R17t5 : (uA t4 33 18 (upd (t4.2.1 33 18) k (nI (10 * (f (p + 1) - 48) + (f (p + 2) - 48))))).2.1 33 17 k = (nI 5) := by rw [uA_2, if_neg (by decide)]; exact R17t4
      have R18t5 : (uA t4 33 18 (upd (t4.2.1 33 18) k (nI (10 * (f (p + 1) - 48) + (f (p + 2) - 48))))).2.1 33 18 k = (nI (10 * (f (p + 1) - 48) + (f (p + 2) - 48))) := by rw [uA_s, upd_at, if_pos rfl]
      generalize (uA t4 33 18 (upd (t4.2.1 33 18) k (nI (10 * (f (p + 1) - 48) + (f (p + 2) - 48))))) = t5 at Ft5 Kt5 At5 Lt5 R17t5 R18t5 ⊢
      refine go_aload_n (i := 0) (pc := 197) dX12_readsAct_197 rfl rfl ?_
      refine go_getr2 fl_X12_69 (pc := 198) dX12_readsAct_198 (by rfl) (by rfl) (by rfl) ?_
      refine go_iload_n (i := 1) (pc := 201) dX12_readsAct_201 rfl rfl ?_
      refine go_iaload _ (pc := 202) dX12_readsAct_202 (by first | rfl | (apply zM_ar <;> assumption)) (by first | rfl | (apply zM_jn <;> assumption)) rfl (by first | assumption | omega) ?_
      rw [R18t5]
      refine go_if_lt 210 (pc := 203) dX12_readsAct_203 (by decide) (fun h203 => ?_) (fun h203 => ?_)
      · exact absurd h203 (nI_pos (by omega))
      · refine go_iconst (nI 1) (pc := 206) dX12_readsAct_206 (by decide) ?_
        refine go_goto 211 (pc := 207) dX12_readsAct_207 (by decide) ?_
        refine go_zreturn (pc := 211) dX12_readsAct_211 rfl rfl ?_
        rw [ec]
        exact ⟨rfl, Kt5, fun _ => ⟨At5, by rw [R17t5, hfp]; rfl, by rw [R18t5]; unfold aV1; rw [hfp]; rfl, fun h => by omega⟩, Lt5, Ft5⟩
    · skip
      have ec : aOne f lim p = (false, p + 2) := by
        unfold aOne
        rw [if_neg (by rw [hal]; decide)]
        rw [if_neg (by omega)]
        rw [if_neg (show ¬ fAct (f p) 1 (f (p + 1)) = false by unfold fAct; rw [if_neg (by omega)]; rw [decide_eq_true (by omega)]; decide)]
        rw [if_neg (by rw [hal]; decide)]
        by_cases hl : lim ≤ p + 2
        · rw [if_pos hl, show lim = p + 2 by omega]
        · rw [if_neg hl, if_pos (show fAct (f p) 2 (f (p + 2)) = false by unfold fAct; rw [if_neg (by omega)]; exact decide_eq_false (by omega))]
      refine go_aload_n (i := 0) (pc := 0) dX12_readsAct_0 rfl rfl ?_
      refine go_geti fl_X12_340 (pc := 1) dX12_readsAct_1 (by rfl) ?_
      rw [h35]
      refine go_istore_n (i := 1) (pc := 4) dX12_readsAct_4 rfl (by decide) ?_
      refine go_aload_n (i := 0) (pc := 5) dX12_readsAct_5 rfl rfl ?_
      refine go_getr2 fl_X12_66 (pc := 6) dX12_readsAct_6 (by rfl) (by rfl) (by rfl) ?_
      refine go_iload_n (i := 1) (pc := 9) dX12_readsAct_9 rfl rfl ?_
      refine go_aload_n (i := 0) (pc := 10) dX12_readsAct_10 rfl rfl ?_
      refine go_ldcwS 6 rfl rfl (pc := 11) dX12_readsAct_11 ?_
      refine go_callV ml_X12_172 mt_X12_takesOf (pc := 14) dX12_readsAct_14 (c_X12_takesOf (ti := 6) hK (by decide)) (by rfl) rfl (by rfl) (by decide) (by decide) rfl rfl (Nat.le_of_ble_eq_true rfl) (fun r σ' hp2 => ?_)
      obtain ⟨rfl, Ka, hFd⟩ := hp2
      dsimp only [zRet]
      rw [hsg] at Ka ⊢
      dsimp only [gM] at Ka ⊢
      have Ft1 := Fr9.rf.tr (hFd.mono (fs2 := [16, 35]) (js2 := [17, 18, 19]) (by simp) (by simp))
      have At1 : σ'.1 33 35 = (nI k) := by rw [hFd.2.1 _ (by decide)]; exact h35
      have Lt1 : ∀ j, j < k → σ'.2.1 33 17 j = σ.2.1 33 17 j ∧ σ'.2.1 33 18 j = σ.2.1 33 18 j ∧ σ'.2.1 33 19 j = σ.2.1 33 19 j := fun j hj => by rw [hFd.2.2.1 17 (by decide), hFd.2.2.1 18 (by decide), hFd.2.2.1 19 (by decide)]; exact L00 j hj
      generalize σ' = t1 at Ft1 At1 Lt1 Ka ⊢
      refine go_iastore k (pc := 17) dX12_readsAct_17 rfl rfl rfl (by omega) ?_
      have Ft2 : Fr9 [16, 35] [17, 18, 19] σ (uA t1 33 17 (upd (t1.2.1 33 17) k (nI 5))) := Ft1.uA (by simp)
      have Kt2 : Cur (uA t1 33 17 (upd (t1.2.1 33 17) k (nI 5))) f _ lim := Ka.fr (fs := []) (js := [17]) (Fr9.rf.uA (by simp)) (by decide) (by decide) (by decide)
      have At2 : (uA t1 33 17 (upd (t1.2.1 33 17) k (nI 5))).1 33 35 = (nI k) := At1
      have Lt2 : ∀ j, j < k → (uA t1 33 17 (upd (t1.2.1 33 17) k (nI 5))).2.1 33 17 j = σ.2.1 33 17 j ∧ (uA t1 33 17 (upd (t1.2.1 33 17) k (nI 5))).2.1 33 18 j = σ.2.1 33 18 j ∧ (uA t1 33 17 (upd (t1.2.1 33 17) k (nI 5))).2.1 33 19 j = σ.2.1 33 19 j := fun j hj => by
        have h := Lt1 j hj
        refine ⟨?_, ?_, ?_⟩
        · rw [uA_2]; first | (rw [if_neg (by decide)]; exact h.1) | (rw [if_pos (by decide), upd_at, if_neg (by omega)]; exact h.1)
        · rw [uA_2]; first | (rw [if_neg (by decide)]; exact h.2.1) | (rw [if_pos (by decide), upd_at, if_neg (by omega)]; exact h.2.1)
        · rw [uA_2]; first | (rw [if_neg (by decide)]; exact h.2.2) | (rw [if_pos (by decide), upd_at, if_neg (by omega)]; exact h.2.2)
      have R17t2 : (uA t1 33 17 (upd (t1.2.1 33 17) k (nI 5))).2.1 33 17 k = (nI 5) := by rw [uA_s, upd_at, if_pos rfl]
      generalize (uA t1 33 17 (upd (t1.2.1 33 17) k (nI 5))) = t2 at Ft2 Kt2 At2 Lt2 R17t2 ⊢
      refine go_aload_n (i := 0) (pc := 18) dX12_readsAct_18 rfl rfl ?_
      refine go_dup (pc := 19) dX12_readsAct_19 rfl ?_
      refine go_geti fl_X12_340 (pc := 20) dX12_readsAct_20 (by rfl) ?_
      rw [At2]
      refine go_iconst (nI 1) (pc := 23) dX12_readsAct_23 (by decide) ?_
      first | with_reducible refine go_iaddN (pc := 24) dX12_readsAct_24 ?_ | refine go_iadd (pc := 24) dX12_readsAct_24 ?_
      refine go_puti fp_X12_340 (pc := 25) dX12_readsAct_25 (by rfl) rfl rfl ?_
      have Ft3 : Fr9 [16, 35] [17, 18, 19] σ (uS t2 33 35 (nI (k + 1))) := Ft2.uS (by simp)
      have Kt3 : Cur (uS t2 33 35 (nI (k + 1))) f _ lim := Kt2.fr (fs := [35]) (js := []) (Fr9.rf.uS (by simp)) (by decide) (by decide) (by decide)
      have At3 : (uS t2 33 35 (nI (k + 1))).1 33 35 = (nI (k + 1)) := uS_s _ _ _ _
      have Lt3 : ∀ j, j < k → (uS t2 33 35 (nI (k + 1))).2.1 33 17 j = σ.2.1 33 17 j ∧ (uS t2 33 35 (nI (k + 1))).2.1 33 18 j = σ.2.1 33 18 j ∧ (uS t2 33 35 (nI (k + 1))).2.1 33 19 j = σ.2.1 33 19 j := Lt2
      have R17t3 : (uS t2 33 35 (nI (k + 1))).2.1 33 17 k = (nI 5) := R17t2
      generalize (uS t2 33 35 (nI (k + 1))) = t3 at Ft3 Kt3 At3 Lt3 R17t3 ⊢
      refine go_aload_n (i := 0) (pc := 28) dX12_readsAct_28 rfl rfl ?_
      refine go_getr2 fl_X12_66 (pc := 29) dX12_readsAct_29 (by rfl) (by rfl) (by rfl) ?_
      refine go_iload_n (i := 1) (pc := 32) dX12_readsAct_32 rfl rfl ?_
      refine go_iaload _ (pc := 33) dX12_readsAct_33 (by first | rfl | (apply zM_ar <;> assumption)) (by first | rfl | (apply zM_jn <;> assumption)) rfl (by first | assumption | omega) ?_
      rw [R17t3]
      refine go_tableIn 187 (off := 153) (pc := 34) dX12_readsAct_34 (by decide) (by decide) (by decide) (by decide) ?_
      refine go_aload_n (i := 0) (pc := 187) dX12_readsAct_187 rfl rfl ?_
      refine go_getr2 fl_X12_69 (pc := 188) dX12_readsAct_188 (by rfl) (by rfl) (by rfl) ?_
      refine go_iload_n (i := 1) (pc := 191) dX12_readsAct_191 rfl rfl ?_
      refine go_aload_n (i := 0) (pc := 192) dX12_readsAct_192 rfl rfl ?_
      refine go_callV ml_X12_347 mt_X12_twoDigits (pc := 193) dX12_readsAct_193 (c_X12_twoDigits Kt3) (by rfl) rfl (by rfl) (by decide) (by decide) rfl rfl (Nat.le_of_ble_eq_true rfl) (fun r σ' hp2 => ?_)
      obtain ⟨rfl, Kb, hFe⟩ := hp2
      dsimp only [zRet]
      rw [if_pos h1, if_neg h2] at Kb ⊢
      have Ft4 := Ft3.tr (hFe.mono (fs2 := [16, 35]) (js2 := [17, 18, 19]) (by simp) (by simp))
      have At4 : σ'.1 33 35 = (nI (k + 1)) := by rw [hFe.2.1 _ (by decide)]; exact At3
      have Lt4 : ∀ j, j < k → σ'.2.1 33 17 j = σ.2.1 33 17 j ∧ σ'.2.1 33 18 j = σ.2.1 33 18 j ∧ σ'.2.1 33 19 j = σ.2.1 33 19 j := fun j hj => by rw [hFe.2.2.1 17 (by decide), hFe.2.2.1 18 (by decide), hFe.2.2.1 19 (by decide)]; exact Lt3 j hj
      have R17t4 : σ'.2.1 33 17 k = (nI 5) := by rw [hFe.2.2.1 17 (by decide)]; exact R17t3
      generalize σ' = t4 at Ft4 At4 Lt4 Kb R17t4 ⊢
      refine go_iastore k (pc := 196) dX12_readsAct_196 rfl rfl rfl (by omega) ?_
      have Ft5 : Fr9 [16, 35] [17, 18, 19] σ (uA t4 33 18 (upd (t4.2.1 33 18) k (-1))) := Ft4.uA (by simp)
      have Kt5 : Cur (uA t4 33 18 (upd (t4.2.1 33 18) k (-1))) f _ lim := Kb.fr (fs := []) (js := [18]) (Fr9.rf.uA (by simp)) (by decide) (by decide) (by decide)
      have At5 : (uA t4 33 18 (upd (t4.2.1 33 18) k (-1))).1 33 35 = (nI (k + 1)) := At4
      have Lt5 : ∀ j, j < k → (uA t4 33 18 (upd (t4.2.1 33 18) k (-1))).2.1 33 17 j = σ.2.1 33 17 j ∧ (uA t4 33 18 (upd (t4.2.1 33 18) k (-1))).2.1 33 18 j = σ.2.1 33 18 j ∧ (uA t4 33 18 (upd (t4.2.1 33 18) k (-1))).2.1 33 19 j = σ.2.1 33 19 j := fun j hj => by
        have h := Lt4 j hj
        refine ⟨?_, ?_, ?_⟩
        · rw [uA_2]; first | (rw [if_neg (by decide)]; exact h.1) | (rw [if_pos (by decide), upd_at, if_neg (by omega)]; exact h.1)
        · rw [uA_2]; first | (rw [if_neg (by decide)]; exact h.2.1) | (rw [if_pos (by decide), upd_at, if_neg (by omega)]; exact h.2.1)
        · rw [uA_2]; first | (rw [if_neg (by decide)]; exact h.2.2) | (rw [if_pos (by decide), upd_at, if_neg (by omega)]; exact h.2.2)
      have R17t5 : (uA t4 33 18 (upd (t4.2.1 33 18) k (-1))).2.1 33 17 k = (nI 5) := by rw [uA_2, if_neg (by decide)]; exact R17t4
      have R18t5 : (uA t4 33 18 (upd (t4.2.1 33 18) k (-1))).2.1 33 18 k = (-1) := by rw [uA_s, upd_at, if_pos rfl]
      generalize (uA t4 33 18 (upd (t4.2.1 33 18) k (-1))) = t5 at Ft5 Kt5 At5 Lt5 R17t5 R18t5 ⊢
      refine go_aload_n (i := 0) (pc := 197) dX12_readsAct_197 rfl rfl ?_
      refine go_getr2 fl_X12_69 (pc := 198) dX12_readsAct_198 (by rfl) (by rfl) (by rfl) ?_
      refine go_iload_n (i := 1) (pc := 201) dX12_readsAct_201 rfl rfl ?_
      refine go_iaload _ (pc := 202) dX12_readsAct_202 (by first | rfl | (apply zM_ar <;> assumption)) (by first | rfl | (apply zM_jn <;> assumption)) rfl (by first | assumption | omega) ?_
      rw [R18t5]
      refine go_if_lt 210 (pc := 203) dX12_readsAct_203 (by decide) (fun h203 => ?_) (fun h203 => ?_)
      · refine go_iconst (nI 0) (pc := 210) dX12_readsAct_210 (by decide) ?_
        refine go_zreturn (pc := 211) dX12_readsAct_211 rfl rfl ?_
        rw [ec]
        exact ⟨rfl, Kt5, fun h => (by cases h), Lt5, Ft5⟩
      · exact absurd (by decide) h203
  · skip
    have ec : aOne f lim p = (false, p + 1) := by
      unfold aOne
      rw [if_neg (by rw [hal]; decide)]
      by_cases hl : lim ≤ p + 1
      · rw [if_pos hl, show lim = p + 1 by omega]
      · rw [if_neg hl, if_pos (show fAct (f p) 1 (f (p + 1)) = false by unfold fAct; rw [if_neg (by omega)]; exact decide_eq_false (by omega))]
    refine go_aload_n (i := 0) (pc := 0) dX12_readsAct_0 rfl rfl ?_
    refine go_geti fl_X12_340 (pc := 1) dX12_readsAct_1 (by rfl) ?_
    rw [h35]
    refine go_istore_n (i := 1) (pc := 4) dX12_readsAct_4 rfl (by decide) ?_
    refine go_aload_n (i := 0) (pc := 5) dX12_readsAct_5 rfl rfl ?_
    refine go_getr2 fl_X12_66 (pc := 6) dX12_readsAct_6 (by rfl) (by rfl) (by rfl) ?_
    refine go_iload_n (i := 1) (pc := 9) dX12_readsAct_9 rfl rfl ?_
    refine go_aload_n (i := 0) (pc := 10) dX12_readsAct_10 rfl rfl ?_
    refine go_ldcwS 6 rfl rfl (pc := 11) dX12_readsAct_11 ?_
    refine go_callV ml_X12_172 mt_X12_takesOf (pc := 14) dX12_readsAct_14 (c_X12_takesOf (ti := 6) hK (by decide)) (by rfl) rfl (by rfl) (by decide) (by decide) rfl rfl (Nat.le_of_ble_eq_true rfl) (fun r σ' hp2 => ?_)
    obtain ⟨rfl, Ka, hFd⟩ := hp2
    dsimp only [zRet]
    rw [hsg] at Ka ⊢
    dsimp only [gM] at Ka ⊢
    have Ft1 := Fr9.rf.tr (hFd.mono (fs2 := [16, 35]) (js2 := [17, 18, 19]) (by simp) (by simp))
    have At1 : σ'.1 33 35 = (nI k) := by rw [hFd.2.1 _ (by decide)]; exact h35
    have Lt1 : ∀ j, j < k → σ'.2.1 33 17 j = σ.2.1 33 17 j ∧ σ'.2.1 33 18 j = σ.2.1 33 18 j ∧ σ'.2.1 33 19 j = σ.2.1 33 19 j := fun j hj => by rw [hFd.2.2.1 17 (by decide), hFd.2.2.1 18 (by decide), hFd.2.2.1 19 (by decide)]; exact L00 j hj
    generalize σ' = t1 at Ft1 At1 Lt1 Ka ⊢
    refine go_iastore k (pc := 17) dX12_readsAct_17 rfl rfl rfl (by omega) ?_
    have Ft2 : Fr9 [16, 35] [17, 18, 19] σ (uA t1 33 17 (upd (t1.2.1 33 17) k (nI 5))) := Ft1.uA (by simp)
    have Kt2 : Cur (uA t1 33 17 (upd (t1.2.1 33 17) k (nI 5))) f _ lim := Ka.fr (fs := []) (js := [17]) (Fr9.rf.uA (by simp)) (by decide) (by decide) (by decide)
    have At2 : (uA t1 33 17 (upd (t1.2.1 33 17) k (nI 5))).1 33 35 = (nI k) := At1
    have Lt2 : ∀ j, j < k → (uA t1 33 17 (upd (t1.2.1 33 17) k (nI 5))).2.1 33 17 j = σ.2.1 33 17 j ∧ (uA t1 33 17 (upd (t1.2.1 33 17) k (nI 5))).2.1 33 18 j = σ.2.1 33 18 j ∧ (uA t1 33 17 (upd (t1.2.1 33 17) k (nI 5))).2.1 33 19 j = σ.2.1 33 19 j := fun j hj => by
      have h := Lt1 j hj
      refine ⟨?_, ?_, ?_⟩
      · rw [uA_2]; first | (rw [if_neg (by decide)]; exact h.1) | (rw [if_pos (by decide), upd_at, if_neg (by omega)]; exact h.1)
      · rw [uA_2]; first | (rw [if_neg (by decide)]; exact h.2.1) | (rw [if_pos (by decide), upd_at, if_neg (by omega)]; exact h.2.1)
      · rw [uA_2]; first | (rw [if_neg (by decide)]; exact h.2.2) | (rw [if_pos (by decide), upd_at, if_neg (by omega)]; exact h.2.2)
    have R17t2 : (uA t1 33 17 (upd (t1.2.1 33 17) k (nI 5))).2.1 33 17 k = (nI 5) := by rw [uA_s, upd_at, if_pos rfl]
    generalize (uA t1 33 17 (upd (t1.2.1 33 17) k (nI 5))) = t2 at Ft2 Kt2 At2 Lt2 R17t2 ⊢
    refine go_aload_n (i := 0) (pc := 18) dX12_readsAct_18 rfl rfl ?_
    refine go_dup (pc := 19) dX12_readsAct_19 rfl ?_
    refine go_geti fl_X12_340 (pc := 20) dX12_readsAct_20 (by rfl) ?_
    rw [At2]
    refine go_iconst (nI 1) (pc := 23) dX12_readsAct_23 (by decide) ?_
    first | with_reducible refine go_iaddN (pc := 24) dX12_readsAct_24 ?_ | refine go_iadd (pc := 24) dX12_readsAct_24 ?_
    refine go_puti fp_X12_340 (pc := 25) dX12_readsAct_25 (by rfl) rfl rfl ?_
    have Ft3 : Fr9 [16, 35] [17, 18, 19] σ (uS t2 33 35 (nI (k + 1))) := Ft2.uS (by simp)
    have Kt3 : Cur (uS t2 33 35 (nI (k + 1))) f _ lim := Kt2.fr (fs := [35]) (js := []) (Fr9.rf.uS (by simp)) (by decide) (by decide) (by decide)
    have At3 : (uS t2 33 35 (nI (k + 1))).1 33 35 = (nI (k + 1)) := uS_s _ _ _ _
    have Lt3 : ∀ j, j < k → (uS t2 33 35 (nI (k + 1))).2.1 33 17 j = σ.2.1 33 17 j ∧ (uS t2 33 35 (nI (k + 1))).2.1 33 18 j = σ.2.1 33 18 j ∧ (uS t2 33 35 (nI (k + 1))).2.1 33 19 j = σ.2.1 33 19 j := Lt2
    have R17t3 : (uS t2 33 35 (nI (k + 1))).2.1 33 17 k = (nI 5) := R17t2
    generalize (uS t2 33 35 (nI (k + 1))) = t3 at Ft3 Kt3 At3 Lt3 R17t3 ⊢
    refine go_aload_n (i := 0) (pc := 28) dX12_readsAct_28 rfl rfl ?_
    refine go_getr2 fl_X12_66 (pc := 29) dX12_readsAct_29 (by rfl) (by rfl) (by rfl) ?_
    refine go_iload_n (i := 1) (pc := 32) dX12_readsAct_32 rfl rfl ?_
    refine go_iaload _ (pc := 33) dX12_readsAct_33 (by first | rfl | (apply zM_ar <;> assumption)) (by first | rfl | (apply zM_jn <;> assumption)) rfl (by first | assumption | omega) ?_
    rw [R17t3]
    refine go_tableIn 187 (off := 153) (pc := 34) dX12_readsAct_34 (by decide) (by decide) (by decide) (by decide) ?_
    refine go_aload_n (i := 0) (pc := 187) dX12_readsAct_187 rfl rfl ?_
    refine go_getr2 fl_X12_69 (pc := 188) dX12_readsAct_188 (by rfl) (by rfl) (by rfl) ?_
    refine go_iload_n (i := 1) (pc := 191) dX12_readsAct_191 rfl rfl ?_
    refine go_aload_n (i := 0) (pc := 192) dX12_readsAct_192 rfl rfl ?_
    refine go_callV ml_X12_347 mt_X12_twoDigits (pc := 193) dX12_readsAct_193 (c_X12_twoDigits Kt3) (by rfl) rfl (by rfl) (by decide) (by decide) rfl rfl (Nat.le_of_ble_eq_true rfl) (fun r σ' hp2 => ?_)
    obtain ⟨rfl, Kb, hFe⟩ := hp2
    dsimp only [zRet]
    rw [if_neg h1] at Kb ⊢
    have Ft4 := Ft3.tr (hFe.mono (fs2 := [16, 35]) (js2 := [17, 18, 19]) (by simp) (by simp))
    have At4 : σ'.1 33 35 = (nI (k + 1)) := by rw [hFe.2.1 _ (by decide)]; exact At3
    have Lt4 : ∀ j, j < k → σ'.2.1 33 17 j = σ.2.1 33 17 j ∧ σ'.2.1 33 18 j = σ.2.1 33 18 j ∧ σ'.2.1 33 19 j = σ.2.1 33 19 j := fun j hj => by rw [hFe.2.2.1 17 (by decide), hFe.2.2.1 18 (by decide), hFe.2.2.1 19 (by decide)]; exact Lt3 j hj
    have R17t4 : σ'.2.1 33 17 k = (nI 5) := by rw [hFe.2.2.1 17 (by decide)]; exact R17t3
    generalize σ' = t4 at Ft4 At4 Lt4 Kb R17t4 ⊢
    refine go_iastore k (pc := 196) dX12_readsAct_196 rfl rfl rfl (by omega) ?_
    have Ft5 : Fr9 [16, 35] [17, 18, 19] σ (uA t4 33 18 (upd (t4.2.1 33 18) k (-1))) := Ft4.uA (by simp)
    have Kt5 : Cur (uA t4 33 18 (upd (t4.2.1 33 18) k (-1))) f _ lim := Kb.fr (fs := []) (js := [18]) (Fr9.rf.uA (by simp)) (by decide) (by decide) (by decide)
    have At5 : (uA t4 33 18 (upd (t4.2.1 33 18) k (-1))).1 33 35 = (nI (k + 1)) := At4
    have Lt5 : ∀ j, j < k → (uA t4 33 18 (upd (t4.2.1 33 18) k (-1))).2.1 33 17 j = σ.2.1 33 17 j ∧ (uA t4 33 18 (upd (t4.2.1 33 18) k (-1))).2.1 33 18 j = σ.2.1 33 18 j ∧ (uA t4 33 18 (upd (t4.2.1 33 18) k (-1))).2.1 33 19 j = σ.2.1 33 19 j := fun j hj => by
      have h := Lt4 j hj
      refine ⟨?_, ?_, ?_⟩
      · rw [uA_2]; first | (rw [if_neg (by decide)]; exact h.1) | (rw [if_pos (by decide), upd_at, if_neg (by omega)]; exact h.1)
      · rw [uA_2]; first | (rw [if_neg (by decide)]; exact h.2.1) | (rw [if_pos (by decide), upd_at, if_neg (by omega)]; exact h.2.1)
      · rw [uA_2]; first | (rw [if_neg (by decide)]; exact h.2.2) | (rw [if_pos (by decide), upd_at, if_neg (by omega)]; exact h.2.2)
    have R17t5 : (uA t4 33 18 (upd (t4.2.1 33 18) k (-1))).2.1 33 17 k = (nI 5) := by rw [uA_2, if_neg (by decide)]; exact R17t4
    have R18t5 : (uA t4 33 18 (upd (t4.2.1 33 18) k (-1))).2.1 33 18 k = (-1) := by rw [uA_s, upd_at, if_pos rfl]
    generalize (uA t4 33 18 (upd (t4.2.1 33 18) k (-1))) = t5 at Ft5 Kt5 At5 Lt5 R17t5 R18t5 ⊢
    refine go_aload_n (i := 0) (pc := 197) dX12_readsAct_197 rfl rfl ?_
    refine go_getr2 fl_X12_69 (pc := 198) dX12_readsAct_198 (by rfl) (by rfl) (by rfl) ?_
    refine go_iload_n (i := 1) (pc := 201) dX12_readsAct_201 rfl rfl ?_
    refine go_iaload _ (pc := 202) dX12_readsAct_202 (by first | rfl | (apply zM_ar <;> assumption)) (by first | rfl | (apply zM_jn <;> assumption)) rfl (by first | assumption | omega) ?_
    rw [R18t5]
    refine go_if_lt 210 (pc := 203) dX12_readsAct_203 (by decide) (fun h203 => ?_) (fun h203 => ?_)
    · refine go_iconst (nI 0) (pc := 210) dX12_readsAct_210 (by decide) ?_
      refine go_zreturn (pc := 211) dX12_readsAct_211 rfl rfl ?_
      rw [ec]
      exact ⟨rfl, Kt5, fun h => (by cases h), Lt5, Ft5⟩
    · exact absurd (by decide) h203

theorem c_readsAct6 {E : zE} {σ : zT} {f : Nat → Nat} {p lim k : Nat} (hK : Cur σ f p lim) (hp : p < lim) (h35 : σ.1 33 35 = nI k) (hk : k < 60) (hfp : f p ≠ 119 ∧ f p ≠ 109 ∧ f p ≠ 112 ∧ f p ≠ 103 ∧ f p ≠ 99 ∧ f p ≠ 100) : CalM E 6 yX12_readsAct cX12_readsAct 2 (some .boolean) [.ref (zA E 33 0)] σ (fun r σ' => r = some (.int (zb (aOne f lim p).1)) ∧ Cur σ' f (aOne f lim p).2 lim ∧ ((aOne f lim p).1 = true → σ'.1 33 35 = nI (k + 1) ∧ ActIs σ' f k p) ∧ (∀ j, j < k → σ'.2.1 33 17 j = σ.2.1 33 17 j ∧ σ'.2.1 33 18 j = σ.2.1 33 18 j ∧ σ'.2.1 33 19 j = σ.2.1 33 19 j) ∧ Fr9 [16, 35] [17, 18, 19] σ σ') := by
  refine cal_of_go (own := RX12) rfl (by decide +kernel) (Nat.le_of_ble_eq_true rfl) ?_
  have hfb := fun i (h : i < 80) => (hK.2.2.2.2 i h).2
  have hl80 := hK.2.2.2.1
  have hfp0 := hfb p (by omega)
  have L00 : ∀ j, j < k → σ.2.1 33 17 j = σ.2.1 33 17 j ∧ σ.2.1 33 18 j = σ.2.1 33 18 j ∧ σ.2.1 33 19 j = σ.2.1 33 19 j := fun _ _ => ⟨rfl, rfl, rfl⟩
  have hsg : amA 6 f p lim = none := by rw [amA_in hp, am_6 _ hfp0, if_neg hfp.1, if_neg hfp.2.1, if_neg hfp.2.2.1, if_neg hfp.2.2.2.1, if_neg hfp.2.2.2.2.1, if_neg hfp.2.2.2.2.2]
  have ec : aOne f lim p = (false, p) := by unfold aOne; rw [if_pos (show aLen (f p) = 0 by unfold aLen; rw [if_neg (by omega), if_neg (by omega)])]
  refine go_aload_n (i := 0) (pc := 0) dX12_readsAct_0 rfl rfl ?_
  refine go_geti fl_X12_340 (pc := 1) dX12_readsAct_1 (by rfl) ?_
  rw [h35]
  refine go_istore_n (i := 1) (pc := 4) dX12_readsAct_4 rfl (by decide) ?_
  refine go_aload_n (i := 0) (pc := 5) dX12_readsAct_5 rfl rfl ?_
  refine go_getr2 fl_X12_66 (pc := 6) dX12_readsAct_6 (by rfl) (by rfl) (by rfl) ?_
  refine go_iload_n (i := 1) (pc := 9) dX12_readsAct_9 rfl rfl ?_
  refine go_aload_n (i := 0) (pc := 10) dX12_readsAct_10 rfl rfl ?_
  refine go_ldcwS 6 rfl rfl (pc := 11) dX12_readsAct_11 ?_
  refine go_callV ml_X12_172 mt_X12_takesOf (pc := 14) dX12_readsAct_14 (c_X12_takesOf (ti := 6) hK (by decide)) (by rfl) rfl (by rfl) (by decide) (by decide) rfl rfl (Nat.le_of_ble_eq_true rfl) (fun r σ' hp2 => ?_)
  obtain ⟨rfl, Ka, hFd⟩ := hp2
  dsimp only [zRet]
  rw [hsg] at Ka ⊢
  dsimp only [gM] at Ka ⊢
  have Ft1 := Fr9.rf.tr (hFd.mono (fs2 := [16, 35]) (js2 := [17, 18, 19]) (by simp) (by simp))
  have At1 : σ'.1 33 35 = (nI k) := by rw [hFd.2.1 _ (by decide)]; exact h35
  have Lt1 : ∀ j, j < k → σ'.2.1 33 17 j = σ.2.1 33 17 j ∧ σ'.2.1 33 18 j = σ.2.1 33 18 j ∧ σ'.2.1 33 19 j = σ.2.1 33 19 j := fun j hj => by rw [hFd.2.2.1 17 (by decide), hFd.2.2.1 18 (by decide), hFd.2.2.1 19 (by decide)]; exact L00 j hj
  generalize σ' = t1 at Ft1 At1 Lt1 Ka ⊢
  refine go_iastore k (pc := 17) dX12_readsAct_17 rfl rfl rfl (by omega) ?_
  have Ft2 : Fr9 [16, 35] [17, 18, 19] σ (uA t1 33 17 (upd (t1.2.1 33 17) k (-1))) := Ft1.uA (by simp)
  have Kt2 : Cur (uA t1 33 17 (upd (t1.2.1 33 17) k (-1))) f _ lim := Ka.fr (fs := []) (js := [17]) (Fr9.rf.uA (by simp)) (by decide) (by decide) (by decide)
  have At2 : (uA t1 33 17 (upd (t1.2.1 33 17) k (-1))).1 33 35 = (nI k) := At1
  have Lt2 : ∀ j, j < k → (uA t1 33 17 (upd (t1.2.1 33 17) k (-1))).2.1 33 17 j = σ.2.1 33 17 j ∧ (uA t1 33 17 (upd (t1.2.1 33 17) k (-1))).2.1 33 18 j = σ.2.1 33 18 j ∧ (uA t1 33 17 (upd (t1.2.1 33 17) k (-1))).2.1 33 19 j = σ.2.1 33 19 j := fun j hj => by
    have h := Lt1 j hj
    refine ⟨?_, ?_, ?_⟩
    · rw [uA_2]; first | (rw [if_neg (by decide)]; exact h.1) | (rw [if_pos (by decide), upd_at, if_neg (by omega)]; exact h.1)
    · rw [uA_2]; first | (rw [if_neg (by decide)]; exact h.2.1) | (rw [if_pos (by decide), upd_at, if_neg (by omega)]; exact h.2.1)
    · rw [uA_2]; first | (rw [if_neg (by decide)]; exact h.2.2) | (rw [if_pos (by decide), upd_at, if_neg (by omega)]; exact h.2.2)
  have R17t2 : (uA t1 33 17 (upd (t1.2.1 33 17) k (-1))).2.1 33 17 k = (-1) := by rw [uA_s, upd_at, if_pos rfl]
  generalize (uA t1 33 17 (upd (t1.2.1 33 17) k (-1))) = t2 at Ft2 Kt2 At2 Lt2 R17t2 ⊢
  refine go_aload_n (i := 0) (pc := 18) dX12_readsAct_18 rfl rfl ?_
  refine go_dup (pc := 19) dX12_readsAct_19 rfl ?_
  refine go_geti fl_X12_340 (pc := 20) dX12_readsAct_20 (by rfl) ?_
  rw [At2]
  refine go_iconst (nI 1) (pc := 23) dX12_readsAct_23 (by decide) ?_
  first | with_reducible refine go_iaddN (pc := 24) dX12_readsAct_24 ?_ | refine go_iadd (pc := 24) dX12_readsAct_24 ?_
  refine go_puti fp_X12_340 (pc := 25) dX12_readsAct_25 (by rfl) rfl rfl ?_
  have Ft3 : Fr9 [16, 35] [17, 18, 19] σ (uS t2 33 35 (nI (k + 1))) := Ft2.uS (by simp)
  have Kt3 : Cur (uS t2 33 35 (nI (k + 1))) f _ lim := Kt2.fr (fs := [35]) (js := []) (Fr9.rf.uS (by simp)) (by decide) (by decide) (by decide)
  have At3 : (uS t2 33 35 (nI (k + 1))).1 33 35 = (nI (k + 1)) := uS_s _ _ _ _
  have Lt3 : ∀ j, j < k → (uS t2 33 35 (nI (k + 1))).2.1 33 17 j = σ.2.1 33 17 j ∧ (uS t2 33 35 (nI (k + 1))).2.1 33 18 j = σ.2.1 33 18 j ∧ (uS t2 33 35 (nI (k + 1))).2.1 33 19 j = σ.2.1 33 19 j := Lt2
  have R17t3 : (uS t2 33 35 (nI (k + 1))).2.1 33 17 k = (-1) := R17t2
  generalize (uS t2 33 35 (nI (k + 1))) = t3 at Ft3 Kt3 At3 Lt3 R17t3 ⊢
  refine go_aload_n (i := 0) (pc := 28) dX12_readsAct_28 rfl rfl ?_
  refine go_getr2 fl_X12_66 (pc := 29) dX12_readsAct_29 (by rfl) (by rfl) (by rfl) ?_
  refine go_iload_n (i := 1) (pc := 32) dX12_readsAct_32 rfl rfl ?_
  refine go_iaload _ (pc := 33) dX12_readsAct_33 (by first | rfl | (apply zM_ar <;> assumption)) (by first | rfl | (apply zM_jn <;> assumption)) rfl (by first | assumption | omega) ?_
  rw [R17t3]
  refine go_tableOut 212 (pc := 34) dX12_readsAct_34 (by decide) (by decide) ?_
  refine go_iconst (nI 0) (pc := 212) dX12_readsAct_212 (by decide) ?_
  refine go_zreturn (pc := 213) dX12_readsAct_213 rfl rfl ?_
  rw [ec]
  exact ⟨rfl, Kt3, fun h => (by cases h), Lt3, Ft3⟩

theorem c_X12_readsAct {E : zE} {σ : zT} {f : Nat → Nat} {p lim k : Nat} (hK : Cur σ f p lim) (hp : p < lim) (h35 : σ.1 33 35 = nI k) (hk : k < 60) : CalM E 6 yX12_readsAct cX12_readsAct 2 (some .boolean) [.ref (zA E 33 0)] σ (fun r σ' => r = some (.int (zb (aOne f lim p).1)) ∧ Cur σ' f (aOne f lim p).2 lim ∧ ((aOne f lim p).1 = true → σ'.1 33 35 = nI (k + 1) ∧ ActIs σ' f k p) ∧ (∀ j, j < k → σ'.2.1 33 17 j = σ.2.1 33 17 j ∧ σ'.2.1 33 18 j = σ.2.1 33 18 j ∧ σ'.2.1 33 19 j = σ.2.1 33 19 j) ∧ Fr9 [16, 35] [17, 18, 19] σ σ') := by
  rcases (show f p = 119 ∨ f p = 109 ∨ f p = 112 ∨ f p = 103 ∨ f p = 99 ∨ f p = 100 ∨ (f p ≠ 119 ∧ f p ≠ 109 ∧ f p ≠ 112 ∧ f p ≠ 103 ∧ f p ≠ 99 ∧ f p ≠ 100) by omega) with h | h | h | h | h | h | h
  · exact c_readsAct0 hK hp h35 hk h
  · exact c_readsAct1 hK hp h35 hk h
  · exact c_readsAct2 hK hp h35 hk h
  · exact c_readsAct3 hK hp h35 hk h
  · exact c_readsAct4 hK hp h35 hk h
  · exact c_readsAct5 hK hp h35 hk h
  · exact c_readsAct6 hK hp h35 hk h

