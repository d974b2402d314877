theorem rd_fa {L : Nat} {f : Nat → Nat} {b : Bool} {q : Nat} {o : List Nat} (h0 : L ≠ 0) (hq : q ≤ min L 40) (hm : mq0 L f = if b = true ∧ q = min L 40 then (1, 0, o) else (0, q, [])) : faO L 40 b q (min L 40) = (match rdF L (mq0 L f) with | none => nI 0 | some q => mF q) ∧ (rdF L (mq0 L f) = none → rdX L (mq0 L f) = o) := by
  rw [hm]
  by_cases hb : b = true ∧ q = min L 40
  · rw [if_pos hb]
    by_cases hL : L ≤ 40
    · have hr : rdF L (1, 0, o) = none := by unfold rdF; exact if_pos (Or.inr ⟨hL, rfl⟩)
      rw [hr]
      unfold faO rdX
      rw [if_neg (fun h => absurd h.1 (by omega)), if_pos hb, if_neg h0]
      exact ⟨rfl, fun _ => rfl⟩
    · have hr : rdF L (1, 0, o) = some (min L 40) := by
        unfold rdF
        rw [if_neg (fun h => by rcases h with h | h; exact h0 h; exact hL h.1), if_pos rfl]
      rw [hr]
      unfold faO
      rw [if_pos ⟨by omega, Or.inl hb⟩, show min L 40 = 40 by omega]
      exact ⟨rfl, fun h => by cases h⟩
  · rw [if_neg hb]
    have hr : rdF L (0, q, []) = some q := by
      unfold rdF
      rw [if_neg (fun h => by rcases h with h | h; exact h0 h; exact absurd (show (0 : Nat) = 1 from h.2) (by decide)), if_neg (fun h => absurd (show (0 : Nat) = 1 from h) (by decide))]
    rw [hr]
    refine ⟨?_, fun h => by cases h⟩
    unfold faO
    by_cases hc : 40 < L ∧ ((b = true ∧ q = min L 40) ∨ 40 ≤ q)
    · rw [if_pos hc]
      have h2 : 40 ≤ q := by
        rcases hc.2 with h | h
        · exact absurd h hb
        · exact h
      have h3 : q = 40 := by omega
      rw [h3]
    · rw [if_neg hc, if_neg hb]
def rlY (L : Nat) (f : Nat → Nat) : List Nat := if L = 0 then [] else rdX L (mq0 L f)

theorem c_X12_readsRule {E : zE} {σ : zT} {L : Nat} {f : Nat → Nat} (hT : TapeIs σ L f) : CalM E 336 yX12_readsRule cX12_readsRule 3 (some .int) [.ref (zA E 33 0)] σ (fun r σ' => r = some (.int (match rdF L (mq0 L f) with | none => nI 0 | some q => mF q)) ∧ (rdF L (mq0 L f) = none → RcIs σ' (rlY L f)) ∧ TapeIs σ' 0 f ∧ Fr9 [15, 16, 17, 18, 24] [12] σ σ') := by
  refine cal_of_go (own := RX12) rfl (by decide +kernel) (Nat.le_of_ble_eq_true rfl) ?_
  have hL80 := hT.2.1
  by_cases h0 : L = 0
  · skip
    refine go_aload_n (i := 0) (pc := 0) dX12_readsRule_0 rfl rfl ?_
    refine go_bipush (nI 40) (pc := 1) dX12_readsRule_1 (by decide) ?_
    refine go_callV ml_X12_166 mt_X12_begins (pc := 3) dX12_readsRule_3 (c_X12_begins hT (by decide)) (by rfl) rfl (by rfl) (by decide) (by decide) rfl rfl (Nat.le_of_ble_eq_true rfl) (fun r σ' hp => ?_)
    obtain ⟨rfl, hK, hTt, hn18, hFb⟩ := hp
    dsimp only [zRet]
    refine go_istore_n (i := 1) (pc := 6) dX12_readsRule_6 rfl (by decide) ?_
    refine go_aload_n (i := 0) (pc := 7) dX12_readsRule_7 rfl rfl ?_
    refine go_iconst (nI 0) (pc := 8) dX12_readsRule_8 (by decide) ?_
    refine go_puti fp_X12_206 (pc := 9) dX12_readsRule_9 (by rfl) rfl rfl ?_
    have hFu := (hFb.mono (fs2 := [15, 16, 17, 18, 24]) (js2 := [12]) (by simp) (by simp)).uS (f := 24) (v := nI 0) (by simp)
    have hKu := hK.fr (fs := [24]) (js := []) (Fr9.rf.uS (f := 24) (v := nI 0) (by simp)) (by decide) (by decide) (by decide)
    have hTu := hTt.fr (fs := [24]) (js := []) (Fr9.rf.uS (f := 24) (v := nI 0) (by simp)) (by decide) (by decide)
    have hRu : RcIs (uS σ' 33 24 (nI 0)) [] := ⟨uS_s _ _ _ _, fun j t h => (by cases h)⟩
    have hnu : (uS σ' 33 24 (nI 0)).1 33 18 = nI 0 := hn18
    generalize uS σ' 33 24 (nI 0) = τ at hFu hKu hTu hRu hnu ⊢
    refine go_iload_n (i := 1) (pc := 12) dX12_readsRule_12 rfl rfl ?_
    refine go_if_eq 24 (pc := 13) dX12_readsRule_13 (by decide) (fun h13 => ?_) (fun h13 => ?_)
    · first | rw [zb_0d] at h13 | rw [zn_eq0 (by omega)] at h13 | rw [zi_eq0] at h13
      refine go_iconst (nI 1) (pc := 24) dX12_readsRule_24 (by decide) ?_
      refine go_goto 29 (pc := 25) dX12_readsRule_25 (by decide) ?_
      refine go_istore_n (i := 2) (pc := 29) dX12_readsRule_29 rfl (by decide) ?_
      refine go_aload_n (i := 0) (pc := 30) dX12_readsRule_30 rfl rfl ?_
      refine go_iload_n (i := 1) (pc := 31) dX12_readsRule_31 rfl rfl ?_
      refine go_bipush (nI 40) (pc := 32) dX12_readsRule_32 (by decide) ?_
      refine go_iload_n (i := 2) (pc := 34) dX12_readsRule_34 rfl rfl ?_
      refine go_callV ml_X12_196 mt_X12_faultOf (pc := 35) dX12_readsRule_35 (c_X12_faultOf (b := true) (n := L) (most := 40) hKu (by omega) (by decide)) (by rfl) rfl (by rfl) (by decide) (by decide) rfl rfl (Nat.le_of_ble_eq_true rfl) (fun r σ' hp => ?_)
      obtain ⟨rfl, hσ⟩ := hp
      rw [hσ]
      clear hσ
      dsimp only [zRet]
      refine go_ireturn (pc := 38) dX12_readsRule_38 rfl ?_
      subst h0
      exact ⟨rfl, fun _ => hRu, hTu, hFu⟩
    · first | rw [zb_0d] at h13 | rw [zn_eq0 (by omega)] at h13 | rw [zi_eq0] at h13
      exact absurd h0 h13
  · obtain ⟨b, q, n2, o, e, g, hm⟩ := rd_ref L f
    have g2 := g.2.1
    have hfa := rd_fa h0 g2 hm
    cases b with
    | true =>
      refine go_aload_n (i := 0) (pc := 0) dX12_readsRule_0 rfl rfl ?_
      refine go_bipush (nI 40) (pc := 1) dX12_readsRule_1 (by decide) ?_
      refine go_callV ml_X12_166 mt_X12_begins (pc := 3) dX12_readsRule_3 (c_X12_begins hT (by decide)) (by rfl) rfl (by rfl) (by decide) (by decide) rfl rfl (Nat.le_of_ble_eq_true rfl) (fun r σ' hp => ?_)
      obtain ⟨rfl, hK, hTt, hn18, hFb⟩ := hp
      dsimp only [zRet]
      refine go_istore_n (i := 1) (pc := 6) dX12_readsRule_6 rfl (by decide) ?_
      refine go_aload_n (i := 0) (pc := 7) dX12_readsRule_7 rfl rfl ?_
      refine go_iconst (nI 0) (pc := 8) dX12_readsRule_8 (by decide) ?_
      refine go_puti fp_X12_206 (pc := 9) dX12_readsRule_9 (by rfl) rfl rfl ?_
      have hFu := (hFb.mono (fs2 := [15, 16, 17, 18, 24]) (js2 := [12]) (by simp) (by simp)).uS (f := 24) (v := nI 0) (by simp)
      have hKu := hK.fr (fs := [24]) (js := []) (Fr9.rf.uS (f := 24) (v := nI 0) (by simp)) (by decide) (by decide) (by decide)
      have hTu := hTt.fr (fs := [24]) (js := []) (Fr9.rf.uS (f := 24) (v := nI 0) (by simp)) (by decide) (by decide)
      have hRu : RcIs (uS σ' 33 24 (nI 0)) [] := ⟨uS_s _ _ _ _, fun j t h => (by cases h)⟩
      have hnu : (uS σ' 33 24 (nI 0)).1 33 18 = nI 0 := hn18
      generalize uS σ' 33 24 (nI 0) = τ at hFu hKu hTu hRu hnu ⊢
      refine go_iload_n (i := 1) (pc := 12) dX12_readsRule_12 rfl rfl ?_
      refine go_if_eq 24 (pc := 13) dX12_readsRule_13 (by decide) (fun h13 => ?_) (fun h13 => ?_)
      · first | rw [zb_0d] at h13 | rw [zn_eq0 (by omega)] at h13 | rw [zi_eq0] at h13
        exact absurd h13 h0
      · first | rw [zb_0d] at h13 | rw [zn_eq0 (by omega)] at h13 | rw [zi_eq0] at h13
        refine go_aload_n (i := 0) (pc := 16) dX12_readsRule_16 rfl rfl ?_
        refine go_iconst (nI 0) (pc := 17) dX12_readsRule_17 (by decide) ?_
        refine go_callV ml_X12_218 mt_X12_readsRank (pc := 18) dX12_readsRule_18 ((rd_all 164).2 0 0 0 [] τ _ _ _ _ (by decide) ⟨hKu, by omega, hnu, by decide, hRu, Nat.le_refl _⟩ (by omega) e) (by rfl) rfl (by rfl) (by decide) (by decide) rfl rfl (Nat.le_of_ble_eq_true rfl) (fun r σ' hp => ?_)
        obtain ⟨rfl, hK3, hn3, hR3, hF3⟩ := hp
        dsimp only [zRet]
        refine go_if_eq 28 (pc := 21) dX12_readsRule_21 (by decide) (fun h21 => ?_) (fun h21 => ?_)
        · exact absurd h21 (by decide)
        · refine go_iconst (nI 1) (pc := 24) dX12_readsRule_24 (by decide) ?_
          refine go_goto 29 (pc := 25) dX12_readsRule_25 (by decide) ?_
          refine go_istore_n (i := 2) (pc := 29) dX12_readsRule_29 rfl (by decide) ?_
          refine go_aload_n (i := 0) (pc := 30) dX12_readsRule_30 rfl rfl ?_
          refine go_iload_n (i := 1) (pc := 31) dX12_readsRule_31 rfl rfl ?_
          refine go_bipush (nI 40) (pc := 32) dX12_readsRule_32 (by decide) ?_
          refine go_iload_n (i := 2) (pc := 34) dX12_readsRule_34 rfl rfl ?_
          refine go_callV ml_X12_196 mt_X12_faultOf (pc := 35) dX12_readsRule_35 (c_X12_faultOf (b := true) (n := L) (most := 40) hK3 (by omega) (by decide)) (by rfl) rfl (by rfl) (by decide) (by decide) rfl rfl (Nat.le_of_ble_eq_true rfl) (fun r σ' hp => ?_)
          obtain ⟨rfl, hσ⟩ := hp
          rw [hσ]
          clear hσ
          dsimp only [zRet]
          refine go_ireturn (pc := 38) dX12_readsRule_38 rfl ?_
          rw [hfa.1]
          exact ⟨rfl, fun h => (by unfold rlY; rw [if_neg h0, hfa.2 h]; exact hR3), hTu.fr hF3 (by decide) (by decide), hFu.tr (hF3.mono (by simp) (by simp))⟩
    | false =>
      refine go_aload_n (i := 0) (pc := 0) dX12_readsRule_0 rfl rfl ?_
      refine go_bipush (nI 40) (pc := 1) dX12_readsRule_1 (by decide) ?_
      refine go_callV ml_X12_166 mt_X12_begins (pc := 3) dX12_readsRule_3 (c_X12_begins hT (by decide)) (by rfl) rfl (by rfl) (by decide) (by decide) rfl rfl (Nat.le_of_ble_eq_true rfl) (fun r σ' hp => ?_)
      obtain ⟨rfl, hK, hTt, hn18, hFb⟩ := hp
      dsimp only [zRet]
      refine go_istore_n (i := 1) (pc := 6) dX12_readsRule_6 rfl (by decide) ?_
      refine go_aload_n (i := 0) (pc := 7) dX12_readsRule_7 rfl rfl ?_
      refine go_iconst (nI 0) (pc := 8) dX12_readsRule_8 (by decide) ?_
      refine go_puti fp_X12_206 (pc := 9) dX12_readsRule_9 (by rfl) rfl rfl ?_
      have hFu := (hFb.mono (fs2 := [15, 16, 17, 18, 24]) (js2 := [12]) (by simp) (by simp)).uS (f := 24) (v := nI 0) (by simp)
      have hKu := hK.fr (fs := [24]) (js := []) (Fr9.rf.uS (f := 24) (v := nI 0) (by simp)) (by decide) (by decide) (by decide)
      have hTu := hTt.fr (fs := [24]) (js := []) (Fr9.rf.uS (f := 24) (v := nI 0) (by simp)) (by decide) (by decide)
      have hRu : RcIs (uS σ' 33 24 (nI 0)) [] := ⟨uS_s _ _ _ _, fun j t h => (by cases h)⟩
      have hnu : (uS σ' 33 24 (nI 0)).1 33 18 = nI 0 := hn18
      generalize uS σ' 33 24 (nI 0) = τ at hFu hKu hTu hRu hnu ⊢
      refine go_iload_n (i := 1) (pc := 12) dX12_readsRule_12 rfl rfl ?_
      refine go_if_eq 24 (pc := 13) dX12_readsRule_13 (by decide) (fun h13 => ?_) (fun h13 => ?_)
      · first | rw [zb_0d] at h13 | rw [zn_eq0 (by omega)] at h13 | rw [zi_eq0] at h13
        exact absurd h13 h0
      · first | rw [zb_0d] at h13 | rw [zn_eq0 (by omega)] at h13 | rw [zi_eq0] at h13
        refine go_aload_n (i := 0) (pc := 16) dX12_readsRule_16 rfl rfl ?_
        refine go_iconst (nI 0) (pc := 17) dX12_readsRule_17 (by decide) ?_
        refine go_callV ml_X12_218 mt_X12_readsRank (pc := 18) dX12_readsRule_18 ((rd_all 164).2 0 0 0 [] τ _ _ _ _ (by decide) ⟨hKu, by omega, hnu, by decide, hRu, Nat.le_refl _⟩ (by omega) e) (by rfl) rfl (by rfl) (by decide) (by decide) rfl rfl (Nat.le_of_ble_eq_true rfl) (fun r σ' hp => ?_)
        obtain ⟨rfl, hK3, hn3, hR3, hF3⟩ := hp
        dsimp only [zRet]
        refine go_if_eq 28 (pc := 21) dX12_readsRule_21 (by decide) (fun h21 => ?_) (fun h21 => ?_)
        · refine go_iconst (nI 0) (pc := 28) dX12_readsRule_28 (by decide) ?_
          refine go_istore_n (i := 2) (pc := 29) dX12_readsRule_29 rfl (by decide) ?_
          refine go_aload_n (i := 0) (pc := 30) dX12_readsRule_30 rfl rfl ?_
          refine go_iload_n (i := 1) (pc := 31) dX12_readsRule_31 rfl rfl ?_
          refine go_bipush (nI 40) (pc := 32) dX12_readsRule_32 (by decide) ?_
          refine go_iload_n (i := 2) (pc := 34) dX12_readsRule_34 rfl rfl ?_
          refine go_callV ml_X12_196 mt_X12_faultOf (pc := 35) dX12_readsRule_35 (c_X12_faultOf (b := false) (n := L) (most := 40) hK3 (by omega) (by decide)) (by rfl) rfl (by rfl) (by decide) (by decide) rfl rfl (Nat.le_of_ble_eq_true rfl) (fun r σ' hp => ?_)
          obtain ⟨rfl, hσ⟩ := hp
          rw [hσ]
          clear hσ
          dsimp only [zRet]
          refine go_ireturn (pc := 38) dX12_readsRule_38 rfl ?_
          rw [hfa.1]
          exact ⟨rfl, fun h => (by unfold rlY; rw [if_neg h0, hfa.2 h]; exact hR3), hTu.fr hF3 (by decide) (by decide), hFu.tr (hF3.mono (by simp) (by simp))⟩
        · exact absurd rfl h21

theorem c_X12_laysCode {E : zE} {σ : zT} {w : Nat} {ys : List Nat} (hw : w = 12 ∨ w = 24) (hl : ys.length ≤ 80) (hy : ∀ j t, ys[j]? = some t → σ.2.1 33 w j = nI t) : CalM E 0 yX12_laysCode cX12_laysCode 4 none [.ref (zA E 33 0), .ref (zA E 33 w), .int (nI ys.length)] σ (fun r σ' => r = none ∧ σ'.1 33 23 = nI ys.length ∧ (∀ j t, ys[j]? = some t → σ'.2.1 33 11 j = nI t) ∧ Fr9 [23] [11] σ σ') := by
  refine cal_of_go (own := RX12) rfl (by decide +kernel) (Nat.le_of_ble_eq_true rfl) ?_
  rcases hw with rfl | rfl
  · have loop : ∀ (i : Nat) (τ : zT), i ≤ ys.length → (τ.1 33 23 = nI ys.length) → (∀ j t, j < i → ys[j]? = some t → τ.2.1 33 11 j = nI t) → (Fr9 [23] [11] σ τ) → GoM E 0 RX12 cX12_laysCode 4 none (fun r σ' => r = none ∧ σ'.1 33 23 = nI ys.length ∧ (∀ j t, ys[j]? = some t → σ'.2.1 33 11 j = nI t) ∧ Fr9 [23] [11] σ σ') τ 7 [(0, .ref (zA E 33 0)), (1, .ref (zA E 33 12)), (2, .int (nI ys.length)), (3, .int (nI i))] [] := by
      intro i
      induction hz : ys.length - i using Nat.strongRecOn generalizing i with
      | ind z ih =>
        intro τ hi h23 h11 hF
        refine go_iload_n (i := 3) (pc := 7) dX12_laysCode_7 rfl rfl ?_
        refine go_iload_n (i := 2) (pc := 8) dX12_laysCode_8 rfl rfl ?_
        refine go_icmp_ge 27 (pc := 9) dX12_laysCode_9 (by decide) (fun h9 => ?_) (fun h9 => ?_)
        · first | rw [nI_leI (by omega) (by omega)] at h9 | rw [zi_leN (by omega)] at h9 | rw [zi_Nle (by omega)] at h9 | rw [zi_le] at h9
          refine go_return (pc := 27) dX12_laysCode_27 rfl ?_
          exact ⟨rfl, h23, fun j t hj => h11 j t (by have := (List.getElem?_eq_some_iff.mp hj).1; omega) hj, hF⟩
        · first | rw [nI_leI (by omega) (by omega)] at h9 | rw [zi_leN (by omega)] at h9 | rw [zi_Nle (by omega)] at h9 | rw [zi_le] at h9
          refine go_aload_n (i := 0) (pc := 12) dX12_laysCode_12 rfl rfl ?_
          refine go_getr2 fl_X12_48 (pc := 13) dX12_laysCode_13 (by rfl) (by rfl) (by rfl) ?_
          refine go_iload_n (i := 3) (pc := 16) dX12_laysCode_16 rfl rfl ?_
          refine go_aload_n (i := 1) (pc := 17) dX12_laysCode_17 rfl rfl ?_
          refine go_iload_n (i := 3) (pc := 18) dX12_laysCode_18 rfl rfl ?_
          refine go_iaload i (pc := 19) dX12_laysCode_19 (by first | rfl | (apply zM_ar <;> assumption)) (by first | rfl | (apply zM_jn <;> assumption)) rfl (by omega) ?_
          refine go_iastore i (pc := 20) dX12_laysCode_20 (by first | rfl | (apply zM_ar <;> assumption)) (by first | rfl | (apply zM_jn <;> assumption)) rfl (by omega) ?_
          refine go_iincN (pc := 21) dX12_laysCode_21 rfl (by decide) ?_
          refine go_goto 7 (pc := 24) dX12_laysCode_24 (by decide) ?_
          refine ih (ys.length - (i + 1)) (by omega) (i + 1) rfl _ (by omega) h23 (fun j t hj ht => ?_) (hF.uA (by simp))
          rw [uA_s, upd_at]
          by_cases ej : j = i
          · rw [if_pos ej, hF.2.2.1 _ (by decide)]
            subst ej
            exact hy j t ht
          · rw [if_neg ej]
            exact h11 j t (by omega) ht
    refine go_aload_n (i := 0) (pc := 0) dX12_laysCode_0 rfl rfl ?_
    refine go_iload_n (i := 2) (pc := 1) dX12_laysCode_1 rfl rfl ?_
    refine go_puti fp_X12_227 (pc := 2) dX12_laysCode_2 (by rfl) rfl rfl ?_
    refine go_iconst (nI 0) (pc := 5) dX12_laysCode_5 (by decide) ?_
    refine go_istore_n (i := 3) (pc := 6) dX12_laysCode_6 rfl (by decide) ?_
    exact loop 0 _ (Nat.zero_le _) (uS_s _ _ _ _) (fun j t hj => absurd hj (Nat.not_lt_zero _)) (Fr9.rf.uS (by simp))
  · have loop : ∀ (i : Nat) (τ : zT), i ≤ ys.length → (τ.1 33 23 = nI ys.length) → (∀ j t, j < i → ys[j]? = some t → τ.2.1 33 11 j = nI t) → (Fr9 [23] [11] σ τ) → GoM E 0 RX12 cX12_laysCode 4 none (fun r σ' => r = none ∧ σ'.1 33 23 = nI ys.length ∧ (∀ j t, ys[j]? = some t → σ'.2.1 33 11 j = nI t) ∧ Fr9 [23] [11] σ σ') τ 7 [(0, .ref (zA E 33 0)), (1, .ref (zA E 33 24)), (2, .int (nI ys.length)), (3, .int (nI i))] [] := by
      intro i
      induction hz : ys.length - i using Nat.strongRecOn generalizing i with
      | ind z ih =>
        intro τ hi h23 h11 hF
        refine go_iload_n (i := 3) (pc := 7) dX12_laysCode_7 rfl rfl ?_
        refine go_iload_n (i := 2) (pc := 8) dX12_laysCode_8 rfl rfl ?_
        refine go_icmp_ge 27 (pc := 9) dX12_laysCode_9 (by decide) (fun h9 => ?_) (fun h9 => ?_)
        · first | rw [nI_leI (by omega) (by omega)] at h9 | rw [zi_leN (by omega)] at h9 | rw [zi_Nle (by omega)] at h9 | rw [zi_le] at h9
          refine go_return (pc := 27) dX12_laysCode_27 rfl ?_
          exact ⟨rfl, h23, fun j t hj => h11 j t (by have := (List.getElem?_eq_some_iff.mp hj).1; omega) hj, hF⟩
        · first | rw [nI_leI (by omega) (by omega)] at h9 | rw [zi_leN (by omega)] at h9 | rw [zi_Nle (by omega)] at h9 | rw [zi_le] at h9
          refine go_aload_n (i := 0) (pc := 12) dX12_laysCode_12 rfl rfl ?_
          refine go_getr2 fl_X12_48 (pc := 13) dX12_laysCode_13 (by rfl) (by rfl) (by rfl) ?_
          refine go_iload_n (i := 3) (pc := 16) dX12_laysCode_16 rfl rfl ?_
          refine go_aload_n (i := 1) (pc := 17) dX12_laysCode_17 rfl rfl ?_
          refine go_iload_n (i := 3) (pc := 18) dX12_laysCode_18 rfl rfl ?_
          refine go_iaload i (pc := 19) dX12_laysCode_19 (by first | rfl | (apply zM_ar <;> assumption)) (by first | rfl | (apply zM_jn <;> assumption)) rfl (by omega) ?_
          refine go_iastore i (pc := 20) dX12_laysCode_20 (by first | rfl | (apply zM_ar <;> assumption)) (by first | rfl | (apply zM_jn <;> assumption)) rfl (by omega) ?_
          refine go_iincN (pc := 21) dX12_laysCode_21 rfl (by decide) ?_
          refine go_goto 7 (pc := 24) dX12_laysCode_24 (by decide) ?_
          refine ih (ys.length - (i + 1)) (by omega) (i + 1) rfl _ (by omega) h23 (fun j t hj ht => ?_) (hF.uA (by simp))
          rw [uA_s, upd_at]
          by_cases ej : j = i
          · rw [if_pos ej, hF.2.2.1 _ (by decide)]
            subst ej
            exact hy j t ht
          · rw [if_neg ej]
            exact h11 j t (by omega) ht
    refine go_aload_n (i := 0) (pc := 0) dX12_laysCode_0 rfl rfl ?_
    refine go_iload_n (i := 2) (pc := 1) dX12_laysCode_1 rfl rfl ?_
    refine go_puti fp_X12_227 (pc := 2) dX12_laysCode_2 (by rfl) rfl rfl ?_
    refine go_iconst (nI 0) (pc := 5) dX12_laysCode_5 (by decide) ?_
    refine go_istore_n (i := 3) (pc := 6) dX12_laysCode_6 rfl (by decide) ?_
    exact loop 0 _ (Nat.zero_le _) (uS_s _ _ _ _) (fun j t hj => absurd hj (Nat.not_lt_zero _)) (Fr9.rf.uS (by simp))

