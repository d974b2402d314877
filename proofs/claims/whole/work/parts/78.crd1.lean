/-! the class's reader of rules -/
def ctw (t : Nat) : Int32 := if t = 4000 then -14 else ctok t
def tokW (t : Nat) : Prop := (2000 ≤ t ∧ t < 2007) ∨ t = 3000 ∨ t = 4000
theorem ctw_c {t : Nat} (h : t ≠ 4000) : ctw t = ctok t := if_neg h
def msk (c : Nat → Bool) : Nat := (if c 0 then 1 else 0) + (if c 1 then 2 else 0) + (if c 2 then 4 else 0) + (if c 3 then 8 else 0) + (if c 4 then 16 else 0)
def stw (A : Nat → Int32) : List Nat → Prop
  | [] => True
  | a :: W => (A W.length = ctw a ∧ tokW a) ∧ stw A W
theorem stw_up {A : Nat → Int32} {W : List Nat} {j : Nat} {v : Int32} (h : stw A W) (hj : W.length ≤ j) : stw (upd A j v) W := by
  induction W with
  | nil => trivial
  | cons a W ih =>
    simp only [List.length_cons] at hj
    refine ⟨⟨?_, h.1.2⟩, ih h.2 (by omega)⟩
    rw [upd_at, if_neg (by omega)]
    exact h.1.1
/-- while a rule is read: thing due, waiting, steps, depth, compared -/
def RdIs (σ : zT) (k : Nat) (due : Bool) (W S : List Nat) (d : Nat) (c : Nat → Bool) : Prop :=
  σ.1 k 4 = nI S.length ∧ (∀ j t, S[j]? = some t → σ.2.1 k 1 j = ctok t) ∧ σ.1 k 5 = nI W.length ∧ stw (σ.2.1 k 2) W ∧ σ.1 k 6 = nI d ∧ σ.1 k 7 = nI (msk c) ∧ σ.1 k 8 = zb due
theorem rd_app {A : Nat → Int32} {S : List Nat} {t : Nat} (h : ∀ j t, S[j]? = some t → A j = ctok t) : ∀ j u, (S ++ [t])[j]? = some u → upd A S.length (ctok t) j = ctok u := by
  intro j u hj
  rw [upd_at]
  by_cases e : j = S.length
  · rw [if_pos e]
    subst e
    rw [List.getElem?_append_right (Nat.le_refl _), Nat.sub_self] at hj
    cases hj
    rfl
  · rw [if_neg e]
    by_cases hl : j < S.length
    · rw [List.getElem?_append_left hl] at hj
      exact h j u hj
    · rw [List.getElem?_append_right (by omega)] at hj
      rw [show j - S.length = (j - S.length - 1) + 1 by omega] at hj
      cases hj

theorem RdIs.s5 {σ : zT} {k d : Nat} {due : Bool} {W S : List Nat} {c : Nat → Bool} {a : Nat} (h : RdIs σ k due (a :: W) S d c) : RdIs (uS σ k 5 (nI W.length)) k due W S d c :=
  ⟨by rw [uS_1, if_neg (by simp)]; exact h.1, h.2.1, uS_s _ _ _ _, h.2.2.2.1.2, by rw [uS_1, if_neg (by simp)]; exact h.2.2.2.2.1, by rw [uS_1, if_neg (by simp)]; exact h.2.2.2.2.2.1, by rw [uS_1, if_neg (by simp)]; exact h.2.2.2.2.2.2⟩
theorem RdIs.s6 {σ : zT} {k d d2 : Nat} {due : Bool} {W S : List Nat} {c : Nat → Bool} (h : RdIs σ k due W S d c) : RdIs (uS σ k 6 (nI d2)) k due W S d2 c :=
  ⟨by rw [uS_1, if_neg (by simp)]; exact h.1, h.2.1, by rw [uS_1, if_neg (by simp)]; exact h.2.2.1, h.2.2.2.1, uS_s _ _ _ _, by rw [uS_1, if_neg (by simp)]; exact h.2.2.2.2.2.1, by rw [uS_1, if_neg (by simp)]; exact h.2.2.2.2.2.2⟩
theorem RdIs.s7 {σ : zT} {k d : Nat} {due : Bool} {W S : List Nat} {c c2 : Nat → Bool} {v : Int32} (h : RdIs σ k due W S d c) (hv : v = nI (msk c2)) : RdIs (uS σ k 7 v) k due W S d c2 :=
  ⟨by rw [uS_1, if_neg (by simp)]; exact h.1, h.2.1, by rw [uS_1, if_neg (by simp)]; exact h.2.2.1, h.2.2.2.1, by rw [uS_1, if_neg (by simp)]; exact h.2.2.2.2.1, by rw [uS_s]; exact hv, by rw [uS_1, if_neg (by simp)]; exact h.2.2.2.2.2.2⟩
theorem RdIs.s8 {σ : zT} {k d : Nat} {due b : Bool} {W S : List Nat} {c : Nat → Bool} (h : RdIs σ k due W S d c) : RdIs (uS σ k 8 (zb b)) k b W S d c :=
  ⟨by rw [uS_1, if_neg (by simp)]; exact h.1, h.2.1, by rw [uS_1, if_neg (by simp)]; exact h.2.2.1, h.2.2.2.1, by rw [uS_1, if_neg (by simp)]; exact h.2.2.2.2.1, by rw [uS_1, if_neg (by simp)]; exact h.2.2.2.2.2.1, uS_s _ _ _ _⟩

theorem c_X4_addStep {E : zE} {σ : zT} {k t d : Nat} {due : Bool} {W S : List Nat} {c : Nat → Bool} (hk : zRl k = true) (hR : RdIs σ k due W S d c) (hl : S.length < 40) : CalM E 0 yX4_addStep cX4_addStep 2 none [.ref (zA E k 0), .int (ctok t)] σ (fun r σ' => r = none ∧ RdIs σ' k due W (S ++ [t]) d c ∧ FrG [k] σ σ') := by
  refine cal_of_go (own := RX4) rfl (by decide +kernel) (Nat.le_of_ble_eq_true rfl) ?_
  obtain ⟨q4, q1, q5, q2, q6, q7, q8⟩ := hR
  refine go_aload_n (i := 0) (pc := 0) dX4_addStep_0 rfl rfl ?_
  refine go_geti fl_X4_27 (pc := 1) dX4_addStep_1 (by first | rfl | (apply zL_fi <;> first | assumption | decide) | (apply zR_fi <;> first | assumption | decide)) ?_
  rw [q4]
  refine go_if_lt 36 (pc := 4) dX4_addStep_4 (by decide) (fun h4 => ?_) (fun h4 => ?_)
  · first | rw [zb_0d] at h4 | rw [zn_lt0 (by omega)] at h4 | rw [zi_lt0] at h4
    exfalso
    omega
  · first | rw [zb_0d] at h4 | rw [zn_lt0 (by omega)] at h4 | rw [zi_lt0] at h4
    refine go_aload_n (i := 0) (pc := 7) dX4_addStep_7 rfl rfl ?_
    refine go_geti fl_X4_27 (pc := 8) dX4_addStep_8 (by first | rfl | (apply zL_fi <;> first | assumption | decide) | (apply zR_fi <;> first | assumption | decide)) ?_
    rw [q4]
    refine go_bipush (nI 40) (pc := 11) dX4_addStep_11 (by decide) ?_
    refine go_icmp_ge 36 (pc := 13) dX4_addStep_13 (by decide) (fun h13 => ?_) (fun h13 => ?_)
    · first | rw [nI_leI (by omega) (by omega)] at h13 | rw [zi_leN (by omega)] at h13 | rw [zi_Nle (by omega)] at h13 | rw [zi_le] at h13
      exfalso
      omega
    · first | rw [nI_leI (by omega) (by omega)] at h13 | rw [zi_leN (by omega)] at h13 | rw [zi_Nle (by omega)] at h13 | rw [zi_le] at h13
      refine go_aload_n (i := 0) (pc := 16) dX4_addStep_16 rfl rfl ?_
      refine go_getr2 fl_X4_9 (pc := 17) dX4_addStep_17 (by first | rfl | (apply zL_ci <;> assumption) | (apply zR_ci <;> assumption)) (by first | rfl | (apply zL_in <;> first | assumption | decide) | (apply zR_in <;> first | assumption | decide)) (by first | rfl | (apply zL_fr0 <;> assumption) | (apply zL_fr1 <;> assumption) | (apply zR_fr0 <;> assumption) | (apply zR_fr1 <;> assumption) | (apply zR_fr2 <;> assumption) | (apply zR_fr3 <;> assumption)) ?_
      refine go_aload_n (i := 0) (pc := 20) dX4_addStep_20 rfl rfl ?_
      refine go_geti fl_X4_27 (pc := 21) dX4_addStep_21 (by first | rfl | (apply zL_fi <;> first | assumption | decide) | (apply zR_fi <;> first | assumption | decide)) ?_
      rw [q4]
      refine go_iload_n (i := 1) (pc := 24) dX4_addStep_24 rfl rfl ?_
      refine go_iastore _ (pc := 25) dX4_addStep_25 (by first | rfl | (apply zL_ar1 <;> assumption) | (apply zL_ar2 <;> assumption) | (apply zR_ar1 <;> assumption) | (apply zR_ar2 <;> assumption) | (apply zR_ar3 <;> assumption) | (apply zR_ar4 <;> assumption)) (by first | rfl | (apply zL_jn <;> first | assumption | decide) | (apply zR_jn <;> first | assumption | decide)) rfl (by first | assumption | omega) ?_
      refine go_aload_n (i := 0) (pc := 26) dX4_addStep_26 rfl rfl ?_
      refine go_dup (pc := 27) dX4_addStep_27 rfl ?_
      refine go_geti fl_X4_27 (pc := 28) dX4_addStep_28 (by first | rfl | (apply zL_fi <;> first | assumption | decide) | (apply zR_fi <;> first | assumption | decide)) ?_
      rw [show (uA σ k 1 (upd (σ.2.1 k 1) S.length (ctok t))).1 k 4 = nI S.length from q4]
      refine go_iconst (nI 1) (pc := 31) dX4_addStep_31 (by decide) ?_
      first | with_reducible refine go_iaddN (pc := 32) dX4_addStep_32 ?_ | refine go_iadd (pc := 32) dX4_addStep_32 ?_
      refine go_puti fp_X4_27 (pc := 33) dX4_addStep_33 (by first | rfl | (apply zL_fi <;> first | assumption | decide) | (apply zR_fi <;> first | assumption | decide)) rfl rfl ?_
      refine go_return (pc := 36) dX4_addStep_36 rfl ?_
      refine ⟨rfl, ⟨?_, ?_, ?_, ?_, ?_, ?_, ?_⟩, (FrG.rf.uA (by simp)).uS (by simp)⟩
      · rw [uS_s, List.length_append]; rfl
      · intro j u hj
        show (uA σ k 1 (upd (σ.2.1 k 1) S.length (ctok t))).2.1 k 1 j = ctok u
        rw [uA_s]
        exact rd_app q1 j u hj
      · rw [uS_1, if_neg (by simp)]; exact q5
      · show stw ((uA σ k 1 (upd (σ.2.1 k 1) S.length (ctok t))).2.1 k 2) W
        rw [uA_2, if_neg (by simp)]; exact q2
      · rw [uS_1, if_neg (by simp)]; exact q6
      · rw [uS_1, if_neg (by simp)]; exact q7
      · rw [uS_1, if_neg (by simp)]; exact q8

theorem c_X4_addWaiting {E : zE} {σ : zT} {k t d : Nat} {due : Bool} {W S : List Nat} {c : Nat → Bool} (hk : zRl k = true) (hR : RdIs σ k due W S d c) (hl : W.length < 40) (ht : tokW t) : CalM E 0 yX4_addWaiting cX4_addWaiting 2 none [.ref (zA E k 0), .int (ctw t)] σ (fun r σ' => r = none ∧ RdIs σ' k due (t :: W) S d c ∧ FrG [k] σ σ') := by
  refine cal_of_go (own := RX4) rfl (by decide +kernel) (Nat.le_of_ble_eq_true rfl) ?_
  obtain ⟨q4, q1, q5, q2, q6, q7, q8⟩ := hR
  refine go_aload_n (i := 0) (pc := 0) dX4_addWaiting_0 rfl rfl ?_
  refine go_geti fl_X4_38 (pc := 1) dX4_addWaiting_1 (by first | rfl | (apply zL_fi <;> first | assumption | decide) | (apply zR_fi <;> first | assumption | decide)) ?_
  rw [q5]
  refine go_if_lt 36 (pc := 4) dX4_addWaiting_4 (by decide) (fun h4 => ?_) (fun h4 => ?_)
  · first | rw [zb_0d] at h4 | rw [zn_lt0 (by omega)] at h4 | rw [zi_lt0] at h4
    exfalso
    omega
  · first | rw [zb_0d] at h4 | rw [zn_lt0 (by omega)] at h4 | rw [zi_lt0] at h4
    refine go_aload_n (i := 0) (pc := 7) dX4_addWaiting_7 rfl rfl ?_
    refine go_geti fl_X4_38 (pc := 8) dX4_addWaiting_8 (by first | rfl | (apply zL_fi <;> first | assumption | decide) | (apply zR_fi <;> first | assumption | decide)) ?_
    rw [q5]
    refine go_bipush (nI 40) (pc := 11) dX4_addWaiting_11 (by decide) ?_
    refine go_icmp_ge 36 (pc := 13) dX4_addWaiting_13 (by decide) (fun h13 => ?_) (fun h13 => ?_)
    · first | rw [nI_leI (by omega) (by omega)] at h13 | rw [zi_leN (by omega)] at h13 | rw [zi_Nle (by omega)] at h13 | rw [zi_le] at h13
      exfalso
      omega
    · first | rw [nI_leI (by omega) (by omega)] at h13 | rw [zi_leN (by omega)] at h13 | rw [zi_Nle (by omega)] at h13 | rw [zi_le] at h13
      refine go_aload_n (i := 0) (pc := 16) dX4_addWaiting_16 rfl rfl ?_
      refine go_getr2 fl_X4_15 (pc := 17) dX4_addWaiting_17 (by first | rfl | (apply zL_ci <;> assumption) | (apply zR_ci <;> assumption)) (by first | rfl | (apply zL_in <;> first | assumption | decide) | (apply zR_in <;> first | assumption | decide)) (by first | rfl | (apply zL_fr0 <;> assumption) | (apply zL_fr1 <;> assumption) | (apply zR_fr0 <;> assumption) | (apply zR_fr1 <;> assumption) | (apply zR_fr2 <;> assumption) | (apply zR_fr3 <;> assumption)) ?_
      refine go_aload_n (i := 0) (pc := 20) dX4_addWaiting_20 rfl rfl ?_
      refine go_geti fl_X4_38 (pc := 21) dX4_addWaiting_21 (by first | rfl | (apply zL_fi <;> first | assumption | decide) | (apply zR_fi <;> first | assumption | decide)) ?_
      rw [q5]
      refine go_iload_n (i := 1) (pc := 24) dX4_addWaiting_24 rfl rfl ?_
      refine go_iastore _ (pc := 25) dX4_addWaiting_25 (by first | rfl | (apply zL_ar1 <;> assumption) | (apply zL_ar2 <;> assumption) | (apply zR_ar1 <;> assumption) | (apply zR_ar2 <;> assumption) | (apply zR_ar3 <;> assumption) | (apply zR_ar4 <;> assumption)) (by first | rfl | (apply zL_jn <;> first | assumption | decide) | (apply zR_jn <;> first | assumption | decide)) rfl (by first | assumption | omega) ?_
      refine go_aload_n (i := 0) (pc := 26) dX4_addWaiting_26 rfl rfl ?_
      refine go_dup (pc := 27) dX4_addWaiting_27 rfl ?_
      refine go_geti fl_X4_38 (pc := 28) dX4_addWaiting_28 (by first | rfl | (apply zL_fi <;> first | assumption | decide) | (apply zR_fi <;> first | assumption | decide)) ?_
      rw [show (uA σ k 2 (upd (σ.2.1 k 2) W.length (ctw t))).1 k 5 = nI W.length from q5]
      refine go_iconst (nI 1) (pc := 31) dX4_addWaiting_31 (by decide) ?_
      first | with_reducible refine go_iaddN (pc := 32) dX4_addWaiting_32 ?_ | refine go_iadd (pc := 32) dX4_addWaiting_32 ?_
      refine go_puti fp_X4_38 (pc := 33) dX4_addWaiting_33 (by first | rfl | (apply zL_fi <;> first | assumption | decide) | (apply zR_fi <;> first | assumption | decide)) rfl rfl ?_
      refine go_return (pc := 36) dX4_addWaiting_36 rfl ?_
      refine ⟨rfl, ⟨?_, ?_, ?_, ?_, ?_, ?_, ?_⟩, (FrG.rf.uA (by simp)).uS (by simp)⟩
      · rw [uS_1, if_neg (by simp)]; exact q4
      · intro j u hj
        show (uA σ k 2 (upd (σ.2.1 k 2) W.length (ctw t))).2.1 k 1 j = ctok u
        rw [uA_2, if_neg (by simp)]; exact q1 j u hj
      · rw [uS_s]; rfl
      · show stw ((uA σ k 2 (upd (σ.2.1 k 2) W.length (ctw t))).2.1 k 2) (t :: W)
        rw [uA_s]; exact ⟨⟨by rw [upd_at, if_pos rfl], ht⟩, stw_up q2 (Nat.le_refl _)⟩
      · rw [uS_1, if_neg (by simp)]; exact q6
      · rw [uS_1, if_neg (by simp)]; exact q7
      · rw [uS_1, if_neg (by simp)]; exact q8

theorem c_X4_rank2000 {E : zE} {σ : zT}   : CalM E 0 yX4_rank cX4_rank 1 (some .int) [.int (-11)] σ (fun r σ' => r = some (.int (nI (rkT 2000))) ∧ σ' = σ) := by
  refine cal_of_go (own := RX4) rfl (by decide +kernel) (Nat.le_of_ble_eq_true rfl) ?_
  refine go_iload_n (i := 0) (pc := 0) dX4_rank_0 rfl rfl ?_
  refine go_tableIn 54 (off := 53) (pc := 1) dX4_rank_1 (by decide) (by decide) (by decide) (by decide) ?_
  refine go_iconst (nI 1) (pc := 54) dX4_rank_54 (by decide) ?_
  refine go_ireturn (pc := 55) dX4_rank_55 rfl ?_
  exact ⟨rfl, rfl⟩

theorem c_X4_rank2001 {E : zE} {σ : zT}   : CalM E 0 yX4_rank cX4_rank 1 (some .int) [.int (-12)] σ (fun r σ' => r = some (.int (nI (rkT 2001))) ∧ σ' = σ) := by
  refine cal_of_go (own := RX4) rfl (by decide +kernel) (Nat.le_of_ble_eq_true rfl) ?_
  refine go_iload_n (i := 0) (pc := 0) dX4_rank_0 rfl rfl ?_
  refine go_tableIn 54 (off := 53) (pc := 1) dX4_rank_1 (by decide) (by decide) (by decide) (by decide) ?_
  refine go_iconst (nI 1) (pc := 54) dX4_rank_54 (by decide) ?_
  refine go_ireturn (pc := 55) dX4_rank_55 rfl ?_
  exact ⟨rfl, rfl⟩

theorem c_X4_rank2002 {E : zE} {σ : zT}   : CalM E 0 yX4_rank cX4_rank 1 (some .int) [.int (-13)] σ (fun r σ' => r = some (.int (nI (rkT 2002))) ∧ σ' = σ) := by
  refine cal_of_go (own := RX4) rfl (by decide +kernel) (Nat.le_of_ble_eq_true rfl) ?_
  refine go_iload_n (i := 0) (pc := 0) dX4_rank_0 rfl rfl ?_
  refine go_tableIn 54 (off := 53) (pc := 1) dX4_rank_1 (by decide) (by decide) (by decide) (by decide) ?_
  refine go_iconst (nI 1) (pc := 54) dX4_rank_54 (by decide) ?_
  refine go_ireturn (pc := 55) dX4_rank_55 rfl ?_
  exact ⟨rfl, rfl⟩

theorem c_X4_rank2003 {E : zE} {σ : zT}   : CalM E 0 yX4_rank cX4_rank 1 (some .int) [.int (-9)] σ (fun r σ' => r = some (.int (nI (rkT 2003))) ∧ σ' = σ) := by
  refine cal_of_go (own := RX4) rfl (by decide +kernel) (Nat.le_of_ble_eq_true rfl) ?_
  refine go_iload_n (i := 0) (pc := 0) dX4_rank_0 rfl rfl ?_
  refine go_tableIn 52 (off := 51) (pc := 1) dX4_rank_1 (by decide) (by decide) (by decide) (by decide) ?_
  refine go_iconst (nI 2) (pc := 52) dX4_rank_52 (by decide) ?_
  refine go_ireturn (pc := 53) dX4_rank_53 rfl ?_
  exact ⟨rfl, rfl⟩

theorem c_X4_rank2004 {E : zE} {σ : zT}   : CalM E 0 yX4_rank cX4_rank 1 (some .int) [.int (-10)] σ (fun r σ' => r = some (.int (nI (rkT 2004))) ∧ σ' = σ) := by
  refine cal_of_go (own := RX4) rfl (by decide +kernel) (Nat.le_of_ble_eq_true rfl) ?_
  refine go_iload_n (i := 0) (pc := 0) dX4_rank_0 rfl rfl ?_
  refine go_tableIn 52 (off := 51) (pc := 1) dX4_rank_1 (by decide) (by decide) (by decide) (by decide) ?_
  refine go_iconst (nI 2) (pc := 52) dX4_rank_52 (by decide) ?_
  refine go_ireturn (pc := 53) dX4_rank_53 rfl ?_
  exact ⟨rfl, rfl⟩

theorem c_X4_rank2005 {E : zE} {σ : zT}   : CalM E 0 yX4_rank cX4_rank 1 (some .int) [.int (-7)] σ (fun r σ' => r = some (.int (nI (rkT 2005))) ∧ σ' = σ) := by
  refine cal_of_go (own := RX4) rfl (by decide +kernel) (Nat.le_of_ble_eq_true rfl) ?_
  refine go_iload_n (i := 0) (pc := 0) dX4_rank_0 rfl rfl ?_
  refine go_tableIn 50 (off := 49) (pc := 1) dX4_rank_1 (by decide) (by decide) (by decide) (by decide) ?_
  refine go_iconst (nI 3) (pc := 50) dX4_rank_50 (by decide) ?_
  refine go_ireturn (pc := 51) dX4_rank_51 rfl ?_
  exact ⟨rfl, rfl⟩

theorem c_X4_rank2006 {E : zE} {σ : zT}   : CalM E 0 yX4_rank cX4_rank 1 (some .int) [.int (-8)] σ (fun r σ' => r = some (.int (nI (rkT 2006))) ∧ σ' = σ) := by
  refine cal_of_go (own := RX4) rfl (by decide +kernel) (Nat.le_of_ble_eq_true rfl) ?_
  refine go_iload_n (i := 0) (pc := 0) dX4_rank_0 rfl rfl ?_
  refine go_tableIn 50 (off := 49) (pc := 1) dX4_rank_1 (by decide) (by decide) (by decide) (by decide) ?_
  refine go_iconst (nI 3) (pc := 50) dX4_rank_50 (by decide) ?_
  refine go_ireturn (pc := 51) dX4_rank_51 rfl ?_
  exact ⟨rfl, rfl⟩

theorem c_X4_rank3000 {E : zE} {σ : zT}   : CalM E 0 yX4_rank cX4_rank 1 (some .int) [.int (-6)] σ (fun r σ' => r = some (.int (nI (rkT 3000))) ∧ σ' = σ) := by
  refine cal_of_go (own := RX4) rfl (by decide +kernel) (Nat.le_of_ble_eq_true rfl) ?_
  refine go_iload_n (i := 0) (pc := 0) dX4_rank_0 rfl rfl ?_
  refine go_tableIn 48 (off := 47) (pc := 1) dX4_rank_1 (by decide) (by decide) (by decide) (by decide) ?_
  refine go_iconst (nI 4) (pc := 48) dX4_rank_48 (by decide) ?_
  refine go_ireturn (pc := 49) dX4_rank_49 rfl ?_
  exact ⟨rfl, rfl⟩

theorem c_X4_rank4000 {E : zE} {σ : zT}   : CalM E 0 yX4_rank cX4_rank 1 (some .int) [.int (-14)] σ (fun r σ' => r = some (.int (nI (rkT 4000))) ∧ σ' = σ) := by
  refine cal_of_go (own := RX4) rfl (by decide +kernel) (Nat.le_of_ble_eq_true rfl) ?_
  refine go_iload_n (i := 0) (pc := 0) dX4_rank_0 rfl rfl ?_
  refine go_tableOut 56 (pc := 1) dX4_rank_1 (by decide) (by decide) ?_
  refine go_iconst (nI 0) (pc := 56) dX4_rank_56 (by decide) ?_
  refine go_ireturn (pc := 57) dX4_rank_57 rfl ?_
  exact ⟨rfl, rfl⟩

theorem c_X4_rank {E : zE} {σ : zT} {t : Nat} (h : tokW t) : CalM E 0 yX4_rank cX4_rank 1 (some .int) [.int (ctw t)] σ (fun r σ' => r = some (.int (nI (rkT t))) ∧ σ' = σ) := by
  have : t = 2000 ∨ t = 2001 ∨ t = 2002 ∨ t = 2003 ∨ t = 2004 ∨ t = 2005 ∨ t = 2006 ∨ t = 3000 ∨ t = 4000 := by unfold tokW at h; omega
  rcases this with rfl | rfl | rfl | rfl | rfl | rfl | rfl | rfl | rfl
  · exact c_X4_rank2000
  · exact c_X4_rank2001
  · exact c_X4_rank2002
  · exact c_X4_rank2003
  · exact c_X4_rank2004
  · exact c_X4_rank2005
  · exact c_X4_rank2006
  · exact c_X4_rank3000
  · exact c_X4_rank4000
theorem rkT_le (t : Nat) : rkT t ≤ 4 := by unfold rkT; repeat' split
                                           all_goals decide

theorem c_X4_thingOf {E : zE} {σ : zT} {v : Nat} (hv : v < 256) : CalM E 0 yX4_thingOf cX4_thingOf 1 (some .int) [.int (nI v)] σ (fun r σ' => r = some (.int (match am 2 v with | some a => ctok (1000 + a) | none => -15)) ∧ σ' = σ) := by
  refine cal_of_go (own := RX4) rfl (by decide +kernel) (Nat.le_of_ble_eq_true rfl) ?_
  rw [am2]
  refine go_iload_n (i := 0) (pc := 0) dX4_thingOf_0 rfl rfl ?_
  rcases (show v = 103 ∨ v = 104 ∨ v = 108 ∨ v = 110 ∨ v = 119 ∨ (v ≠ 103 ∧ v ≠ 104 ∧ v ≠ 108 ∧ v ≠ 110 ∧ v ≠ 119) by omega) with h1 | h1 | h1 | h1 | h1 | h1
  · refine go_lookup (off := 53) 54 (pc := 1) dX4_thingOf_1 (by decide) (by rw [nI_toInt (by omega)]; rw [h1]; rfl) (by decide) ?_
    refine go_bipush (-2) (pc := 54) dX4_thingOf_54 (by decide) ?_
    refine go_ireturn (pc := 56) dX4_thingOf_56 rfl ?_
    first
      | (rw [if_pos h1]
         exact ⟨rfl, rfl⟩)
      | (rw [if_neg (by omega), if_pos h1]
         exact ⟨rfl, rfl⟩)
      | (rw [if_neg (by omega), if_neg (by omega), if_pos h1]
         exact ⟨rfl, rfl⟩)
      | (rw [if_neg (by omega), if_neg (by omega), if_neg (by omega), if_pos h1]
         exact ⟨rfl, rfl⟩)
      | (rw [if_neg (by omega), if_neg (by omega), if_neg (by omega), if_neg (by omega), if_pos h1]
         exact ⟨rfl, rfl⟩)
      | (rw [if_neg (by omega), if_neg (by omega), if_neg (by omega), if_neg (by omega), if_neg (by omega)]
         exact ⟨rfl, rfl⟩)
  · refine go_lookup (off := 51) 52 (pc := 1) dX4_thingOf_1 (by decide) (by rw [nI_toInt (by omega)]; rw [h1]; rfl) (by decide) ?_
    refine go_iconst (-1) (pc := 52) dX4_thingOf_52 (by decide) ?_
    refine go_ireturn (pc := 53) dX4_thingOf_53 rfl ?_
    first
      | (rw [if_pos h1]
         exact ⟨rfl, rfl⟩)
      | (rw [if_neg (by omega), if_pos h1]
         exact ⟨rfl, rfl⟩)
      | (rw [if_neg (by omega), if_neg (by omega), if_pos h1]
         exact ⟨rfl, rfl⟩)
      | (rw [if_neg (by omega), if_neg (by omega), if_neg (by omega), if_pos h1]
         exact ⟨rfl, rfl⟩)
      | (rw [if_neg (by omega), if_neg (by omega), if_neg (by omega), if_neg (by omega), if_pos h1]
         exact ⟨rfl, rfl⟩)
      | (rw [if_neg (by omega), if_neg (by omega), if_neg (by omega), if_neg (by omega), if_neg (by omega)]
         exact ⟨rfl, rfl⟩)
  · refine go_lookup (off := 56) 57 (pc := 1) dX4_thingOf_1 (by decide) (by rw [nI_toInt (by omega)]; rw [h1]; rfl) (by decide) ?_
    refine go_bipush (-3) (pc := 57) dX4_thingOf_57 (by decide) ?_
    refine go_ireturn (pc := 59) dX4_thingOf_59 rfl ?_
    first
      | (rw [if_pos h1]
         exact ⟨rfl, rfl⟩)
      | (rw [if_neg (by omega), if_pos h1]
         exact ⟨rfl, rfl⟩)
      | (rw [if_neg (by omega), if_neg (by omega), if_pos h1]
         exact ⟨rfl, rfl⟩)
      | (rw [if_neg (by omega), if_neg (by omega), if_neg (by omega), if_pos h1]
         exact ⟨rfl, rfl⟩)
      | (rw [if_neg (by omega), if_neg (by omega), if_neg (by omega), if_neg (by omega), if_pos h1]
         exact ⟨rfl, rfl⟩)
      | (rw [if_neg (by omega), if_neg (by omega), if_neg (by omega), if_neg (by omega), if_neg (by omega)]
         exact ⟨rfl, rfl⟩)
  · refine go_lookup (off := 62) 63 (pc := 1) dX4_thingOf_1 (by decide) (by rw [nI_toInt (by omega)]; rw [h1]; rfl) (by decide) ?_
    refine go_bipush (-5) (pc := 63) dX4_thingOf_63 (by decide) ?_
    refine go_ireturn (pc := 65) dX4_thingOf_65 rfl ?_
    first
      | (rw [if_pos h1]
         exact ⟨rfl, rfl⟩)
      | (rw [if_neg (by omega), if_pos h1]
         exact ⟨rfl, rfl⟩)
      | (rw [if_neg (by omega), if_neg (by omega), if_pos h1]
         exact ⟨rfl, rfl⟩)
      | (rw [if_neg (by omega), if_neg (by omega), if_neg (by omega), if_pos h1]
         exact ⟨rfl, rfl⟩)
      | (rw [if_neg (by omega), if_neg (by omega), if_neg (by omega), if_neg (by omega), if_pos h1]
         exact ⟨rfl, rfl⟩)
      | (rw [if_neg (by omega), if_neg (by omega), if_neg (by omega), if_neg (by omega), if_neg (by omega)]
         exact ⟨rfl, rfl⟩)
  · refine go_lookup (off := 59) 60 (pc := 1) dX4_thingOf_1 (by decide) (by rw [nI_toInt (by omega)]; rw [h1]; rfl) (by decide) ?_
    refine go_bipush (-4) (pc := 60) dX4_thingOf_60 (by decide) ?_
    refine go_ireturn (pc := 62) dX4_thingOf_62 rfl ?_
    first
      | (rw [if_pos h1]
         exact ⟨rfl, rfl⟩)
      | (rw [if_neg (by omega), if_pos h1]
         exact ⟨rfl, rfl⟩)
      | (rw [if_neg (by omega), if_neg (by omega), if_pos h1]
         exact ⟨rfl, rfl⟩)
      | (rw [if_neg (by omega), if_neg (by omega), if_neg (by omega), if_pos h1]
         exact ⟨rfl, rfl⟩)
      | (rw [if_neg (by omega), if_neg (by omega), if_neg (by omega), if_neg (by omega), if_pos h1]
         exact ⟨rfl, rfl⟩)
      | (rw [if_neg (by omega), if_neg (by omega), if_neg (by omega), if_neg (by omega), if_neg (by omega)]
         exact ⟨rfl, rfl⟩)
  · refine go_lookup (off := 65) 66 (pc := 1) dX4_thingOf_1 (by decide) (by rw [nI_toInt (by omega)]; show Op.lookupswitch.offset [(103, 53), (104, 51), (108, 56), (110, 62), (119, 59)] (65) _ = _; rw [Op.lookupswitch.offset_cons, if_neg (by omega), Op.lookupswitch.offset_cons, if_neg (by omega), Op.lookupswitch.offset_cons, if_neg (by omega), Op.lookupswitch.offset_cons, if_neg (by omega), Op.lookupswitch.offset_cons, if_neg (by omega)]; rfl) (by decide) ?_
    refine go_bipush (-15) (pc := 66) dX4_thingOf_66 (by decide) ?_
    refine go_ireturn (pc := 68) dX4_thingOf_68 rfl ?_
    first
      | (rw [if_pos h1]
         exact ⟨rfl, rfl⟩)
      | (rw [if_neg (by omega), if_pos h1]
         exact ⟨rfl, rfl⟩)
      | (rw [if_neg (by omega), if_neg (by omega), if_pos h1]
         exact ⟨rfl, rfl⟩)
      | (rw [if_neg (by omega), if_neg (by omega), if_neg (by omega), if_pos h1]
         exact ⟨rfl, rfl⟩)
      | (rw [if_neg (by omega), if_neg (by omega), if_neg (by omega), if_neg (by omega), if_pos h1]
         exact ⟨rfl, rfl⟩)
      | (rw [if_neg (by omega), if_neg (by omega), if_neg (by omega), if_neg (by omega), if_neg (by omega)]
         exact ⟨rfl, rfl⟩)

theorem c_X4_actOf {E : zE} {σ : zT} {v : Nat} (hv : v < 256) : CalM E 0 yX4_actOf cX4_actOf 1 (some .int) [.int (nI v)] σ (fun r σ' => r = some (.int (match acT v with | some t => ctok t | none => -15)) ∧ σ' = σ) := by
  refine cal_of_go (own := RX4) rfl (by decide +kernel) (Nat.le_of_ble_eq_true rfl) ?_
  unfold acT
  refine go_iload_n (i := 0) (pc := 0) dX4_actOf_0 rfl rfl ?_
  rcases (show v < 42 ∨ 62 < v ∨ v = 42 ∨ v = 43 ∨ v = 44 ∨ v = 45 ∨ v = 46 ∨ v = 47 ∨ v = 48 ∨ v = 49 ∨ v = 50 ∨ v = 51 ∨ v = 52 ∨ v = 53 ∨ v = 54 ∨ v = 55 ∨ v = 56 ∨ v = 57 ∨ v = 58 ∨ v = 59 ∨ v = 60 ∨ v = 61 ∨ v = 62 by omega) with h1 | h1 | h1 | h1 | h1 | h1 | h1 | h1 | h1 | h1 | h1 | h1 | h1 | h1 | h1 | h1 | h1 | h1 | h1 | h1 | h1 | h1 | h1
  · refine go_tableOut 121 (pc := 1) dX4_actOf_1 (by rw [nI_toInt (by omega)]; omega) (by decide) ?_
    refine go_bipush (-15) (pc := 121) dX4_actOf_121 (by decide) ?_
    refine go_ireturn (pc := 123) dX4_actOf_123 rfl ?_
    first
      | (rw [if_pos h1]
         exact ⟨rfl, rfl⟩)
      | (rw [if_neg (by omega), if_pos h1]
         exact ⟨rfl, rfl⟩)
      | (rw [if_neg (by omega), if_neg (by omega), if_pos h1]
         exact ⟨rfl, rfl⟩)
      | (rw [if_neg (by omega), if_neg (by omega), if_neg (by omega), if_pos h1]
         exact ⟨rfl, rfl⟩)
      | (rw [if_neg (by omega), if_neg (by omega), if_neg (by omega), if_neg (by omega), if_pos h1]
         exact ⟨rfl, rfl⟩)
      | (rw [if_neg (by omega), if_neg (by omega), if_neg (by omega), if_neg (by omega), if_neg (by omega), if_pos h1]
         exact ⟨rfl, rfl⟩)
      | (rw [if_neg (by omega), if_neg (by omega), if_neg (by omega), if_neg (by omega), if_neg (by omega), if_neg (by omega), if_pos h1]
         exact ⟨rfl, rfl⟩)
      | (rw [if_neg (by omega), if_neg (by omega), if_neg (by omega), if_neg (by omega), if_neg (by omega), if_neg (by omega), if_neg (by omega)]
         exact ⟨rfl, rfl⟩)
  · refine go_tableOut 121 (pc := 1) dX4_actOf_1 (by rw [nI_toInt (by omega)]; omega) (by decide) ?_
    refine go_bipush (-15) (pc := 121) dX4_actOf_121 (by decide) ?_
    refine go_ireturn (pc := 123) dX4_actOf_123 rfl ?_
    first
      | (rw [if_pos h1]
         exact ⟨rfl, rfl⟩)
      | (rw [if_neg (by omega), if_pos h1]
         exact ⟨rfl, rfl⟩)
      | (rw [if_neg (by omega), if_neg (by omega), if_pos h1]
         exact ⟨rfl, rfl⟩)
      | (rw [if_neg (by omega), if_neg (by omega), if_neg (by omega), if_pos h1]
         exact ⟨rfl, rfl⟩)
      | (rw [if_neg (by omega), if_neg (by omega), if_neg (by omega), if_neg (by omega), if_pos h1]
         exact ⟨rfl, rfl⟩)
      | (rw [if_neg (by omega), if_neg (by omega), if_neg (by omega), if_neg (by omega), if_neg (by omega), if_pos h1]
         exact ⟨rfl, rfl⟩)
      | (rw [if_neg (by omega), if_neg (by omega), if_neg (by omega), if_neg (by omega), if_neg (by omega), if_neg (by omega), if_pos h1]
         exact ⟨rfl, rfl⟩)
      | (rw [if_neg (by omega), if_neg (by omega), if_neg (by omega), if_neg (by omega), if_neg (by omega), if_neg (by omega), if_neg (by omega)]
         exact ⟨rfl, rfl⟩)
  · refine go_tableIn 100 (pc := 1) dX4_actOf_1 (by rw [nI_toInt (by omega)]; omega) (by rw [nI_toInt (by omega)]; omega) (by rw [nI_toInt (by omega)]; rw [h1]; rfl) (by decide) ?_
    refine go_bipush (-7) (pc := 100) dX4_actOf_100 (by decide) ?_
    refine go_ireturn (pc := 102) dX4_actOf_102 rfl ?_
    first
      | (rw [if_pos h1]
         exact ⟨rfl, rfl⟩)
      | (rw [if_neg (by omega), if_pos h1]
         exact ⟨rfl, rfl⟩)
      | (rw [if_neg (by omega), if_neg (by omega), if_pos h1]
         exact ⟨rfl, rfl⟩)
      | (rw [if_neg (by omega), if_neg (by omega), if_neg (by omega), if_pos h1]
         exact ⟨rfl, rfl⟩)
      | (rw [if_neg (by omega), if_neg (by omega), if_neg (by omega), if_neg (by omega), if_pos h1]
         exact ⟨rfl, rfl⟩)
      | (rw [if_neg (by omega), if_neg (by omega), if_neg (by omega), if_neg (by omega), if_neg (by omega), if_pos h1]
         exact ⟨rfl, rfl⟩)
      | (rw [if_neg (by omega), if_neg (by omega), if_neg (by omega), if_neg (by omega), if_neg (by omega), if_neg (by omega), if_pos h1]
         exact ⟨rfl, rfl⟩)
      | (rw [if_neg (by omega), if_neg (by omega), if_neg (by omega), if_neg (by omega), if_neg (by omega), if_neg (by omega), if_neg (by omega)]
         exact ⟨rfl, rfl⟩)
  · refine go_tableIn 106 (pc := 1) dX4_actOf_1 (by rw [nI_toInt (by omega)]; omega) (by rw [nI_toInt (by omega)]; omega) (by rw [nI_toInt (by omega)]; rw [h1]; rfl) (by decide) ?_
    refine go_bipush (-9) (pc := 106) dX4_actOf_106 (by decide) ?_
    refine go_ireturn (pc := 108) dX4_actOf_108 rfl ?_
    first
      | (rw [if_pos h1]
         exact ⟨rfl, rfl⟩)
      | (rw [if_neg (by omega), if_pos h1]
         exact ⟨rfl, rfl⟩)
      | (rw [if_neg (by omega), if_neg (by omega), if_pos h1]
         exact ⟨rfl, rfl⟩)
      | (rw [if_neg (by omega), if_neg (by omega), if_neg (by omega), if_pos h1]
         exact ⟨rfl, rfl⟩)
      | (rw [if_neg (by omega), if_neg (by omega), if_neg (by omega), if_neg (by omega), if_pos h1]
         exact ⟨rfl, rfl⟩)
      | (rw [if_neg (by omega), if_neg (by omega), if_neg (by omega), if_neg (by omega), if_neg (by omega), if_pos h1]
         exact ⟨rfl, rfl⟩)
      | (rw [if_neg (by omega), if_neg (by omega), if_neg (by omega), if_neg (by omega), if_neg (by omega), if_neg (by omega), if_pos h1]
         exact ⟨rfl, rfl⟩)
      | (rw [if_neg (by omega), if_neg (by omega), if_neg (by omega), if_neg (by omega), if_neg (by omega), if_neg (by omega), if_neg (by omega)]
         exact ⟨rfl, rfl⟩)
  · refine go_tableIn 121 (pc := 1) dX4_actOf_1 (by rw [nI_toInt (by omega)]; omega) (by rw [nI_toInt (by omega)]; omega) (by rw [nI_toInt (by omega)]; rw [h1]; rfl) (by decide) ?_
    refine go_bipush (-15) (pc := 121) dX4_actOf_121 (by decide) ?_
    refine go_ireturn (pc := 123) dX4_actOf_123 rfl ?_
    first
      | (rw [if_pos h1]
         exact ⟨rfl, rfl⟩)
      | (rw [if_neg (by omega), if_pos h1]
         exact ⟨rfl, rfl⟩)
      | (rw [if_neg (by omega), if_neg (by omega), if_pos h1]
         exact ⟨rfl, rfl⟩)
      | (rw [if_neg (by omega), if_neg (by omega), if_neg (by omega), if_pos h1]
         exact ⟨rfl, rfl⟩)
      | (rw [if_neg (by omega), if_neg (by omega), if_neg (by omega), if_neg (by omega), if_pos h1]
         exact ⟨rfl, rfl⟩)
      | (rw [if_neg (by omega), if_neg (by omega), if_neg (by omega), if_neg (by omega), if_neg (by omega), if_pos h1]
         exact ⟨rfl, rfl⟩)
      | (rw [if_neg (by omega), if_neg (by omega), if_neg (by omega), if_neg (by omega), if_neg (by omega), if_neg (by omega), if_pos h1]
         exact ⟨rfl, rfl⟩)
      | (rw [if_neg (by omega), if_neg (by omega), if_neg (by omega), if_neg (by omega), if_neg (by omega), if_neg (by omega), if_neg (by omega)]
         exact ⟨rfl, rfl⟩)
  · refine go_tableIn 109 (pc := 1) dX4_actOf_1 (by rw [nI_toInt (by omega)]; omega) (by rw [nI_toInt (by omega)]; omega) (by rw [nI_toInt (by omega)]; rw [h1]; rfl) (by decide) ?_
    refine go_bipush (-10) (pc := 109) dX4_actOf_109 (by decide) ?_
    refine go_ireturn (pc := 111) dX4_actOf_111 rfl ?_
    first
      | (rw [if_pos h1]
         exact ⟨rfl, rfl⟩)
      | (rw [if_neg (by omega), if_pos h1]
         exact ⟨rfl, rfl⟩)
      | (rw [if_neg (by omega), if_neg (by omega), if_pos h1]
         exact ⟨rfl, rfl⟩)
      | (rw [if_neg (by omega), if_neg (by omega), if_neg (by omega), if_pos h1]
         exact ⟨rfl, rfl⟩)
      | (rw [if_neg (by omega), if_neg (by omega), if_neg (by omega), if_neg (by omega), if_pos h1]
         exact ⟨rfl, rfl⟩)
      | (rw [if_neg (by omega), if_neg (by omega), if_neg (by omega), if_neg (by omega), if_neg (by omega), if_pos h1]
         exact ⟨rfl, rfl⟩)
      | (rw [if_neg (by omega), if_neg (by omega), if_neg (by omega), if_neg (by omega), if_neg (by omega), if_neg (by omega), if_pos h1]
         exact ⟨rfl, rfl⟩)
      | (rw [if_neg (by omega), if_neg (by omega), if_neg (by omega), if_neg (by omega), if_neg (by omega), if_neg (by omega), if_neg (by omega)]
         exact ⟨rfl, rfl⟩)
  · refine go_tableIn 121 (pc := 1) dX4_actOf_1 (by rw [nI_toInt (by omega)]; omega) (by rw [nI_toInt (by omega)]; omega) (by rw [nI_toInt (by omega)]; rw [h1]; rfl) (by decide) ?_
    refine go_bipush (-15) (pc := 121) dX4_actOf_121 (by decide) ?_
    refine go_ireturn (pc := 123) dX4_actOf_123 rfl ?_
    first
      | (rw [if_pos h1]
         exact ⟨rfl, rfl⟩)
      | (rw [if_neg (by omega), if_pos h1]
         exact ⟨rfl, rfl⟩)
      | (rw [if_neg (by omega), if_neg (by omega), if_pos h1]
         exact ⟨rfl, rfl⟩)
      | (rw [if_neg (by omega), if_neg (by omega), if_neg (by omega), if_pos h1]
         exact ⟨rfl, rfl⟩)
      | (rw [if_neg (by omega), if_neg (by omega), if_neg (by omega), if_neg (by omega), if_pos h1]
         exact ⟨rfl, rfl⟩)
      | (rw [if_neg (by omega), if_neg (by omega), if_neg (by omega), if_neg (by omega), if_neg (by omega), if_pos h1]
         exact ⟨rfl, rfl⟩)
      | (rw [if_neg (by omega), if_neg (by omega), if_neg (by omega), if_neg (by omega), if_neg (by omega), if_neg (by omega), if_pos h1]
         exact ⟨rfl, rfl⟩)
      | (rw [if_neg (by omega), if_neg (by omega), if_neg (by omega), if_neg (by omega), if_neg (by omega), if_neg (by omega), if_neg (by omega)]
         exact ⟨rfl, rfl⟩)
  · refine go_tableIn 103 (pc := 1) dX4_actOf_1 (by rw [nI_toInt (by omega)]; omega) (by rw [nI_toInt (by omega)]; omega) (by rw [nI_toInt (by omega)]; rw [h1]; rfl) (by decide) ?_
    refine go_bipush (-8) (pc := 103) dX4_actOf_103 (by decide) ?_
    refine go_ireturn (pc := 105) dX4_actOf_105 rfl ?_
    first
      | (rw [if_pos h1]
         exact ⟨rfl, rfl⟩)
      | (rw [if_neg (by omega), if_pos h1]
         exact ⟨rfl, rfl⟩)
      | (rw [if_neg (by omega), if_neg (by omega), if_pos h1]
         exact ⟨rfl, rfl⟩)
      | (rw [if_neg (by omega), if_neg (by omega), if_neg (by omega), if_pos h1]
         exact ⟨rfl, rfl⟩)
      | (rw [if_neg (by omega), if_neg (by omega), if_neg (by omega), if_neg (by omega), if_pos h1]
         exact ⟨rfl, rfl⟩)
      | (rw [if_neg (by omega), if_neg (by omega), if_neg (by omega), if_neg (by omega), if_neg (by omega), if_pos h1]
         exact ⟨rfl, rfl⟩)
      | (rw [if_neg (by omega), if_neg (by omega), if_neg (by omega), if_neg (by omega), if_neg (by omega), if_neg (by omega), if_pos h1]
         exact ⟨rfl, rfl⟩)
      | (rw [if_neg (by omega), if_neg (by omega), if_neg (by omega), if_neg (by omega), if_neg (by omega), if_neg (by omega), if_neg (by omega)]
         exact ⟨rfl, rfl⟩)
  · refine go_tableIn 121 (pc := 1) dX4_actOf_1 (by rw [nI_toInt (by omega)]; omega) (by rw [nI_toInt (by omega)]; omega) (by rw [nI_toInt (by omega)]; rw [h1]; rfl) (by decide) ?_
    refine go_bipush (-15) (pc := 121) dX4_actOf_121 (by decide) ?_
    refine go_ireturn (pc := 123) dX4_actOf_123 rfl ?_
    first
      | (rw [if_pos h1]
         exact ⟨rfl, rfl⟩)
      | (rw [if_neg (by omega), if_pos h1]
         exact ⟨rfl, rfl⟩)
      | (rw [if_neg (by omega), if_neg (by omega), if_pos h1]
         exact ⟨rfl, rfl⟩)
      | (rw [if_neg (by omega), if_neg (by omega), if_neg (by omega), if_pos h1]
         exact ⟨rfl, rfl⟩)
      | (rw [if_neg (by omega), if_neg (by omega), if_neg (by omega), if_neg (by omega), if_pos h1]
         exact ⟨rfl, rfl⟩)
      | (rw [if_neg (by omega), if_neg (by omega), if_neg (by omega), if_neg (by omega), if_neg (by omega), if_pos h1]
         exact ⟨rfl, rfl⟩)
      | (rw [if_neg (by omega), if_neg (by omega), if_neg (by omega), if_neg (by omega), if_neg (by omega), if_neg (by omega), if_pos h1]
         exact ⟨rfl, rfl⟩)
      | (rw [if_neg (by omega), if_neg (by omega), if_neg (by omega), if_neg (by omega), if_neg (by omega), if_neg (by omega), if_neg (by omega)]
         exact ⟨rfl, rfl⟩)
  · refine go_tableIn 121 (pc := 1) dX4_actOf_1 (by rw [nI_toInt (by omega)]; omega) (by rw [nI_toInt (by omega)]; omega) (by rw [nI_toInt (by omega)]; rw [h1]; rfl) (by decide) ?_
    refine go_bipush (-15) (pc := 121) dX4_actOf_121 (by decide) ?_
    refine go_ireturn (pc := 123) dX4_actOf_123 rfl ?_
    first
      | (rw [if_pos h1]
         exact ⟨rfl, rfl⟩)
      | (rw [if_neg (by omega), if_pos h1]
         exact ⟨rfl, rfl⟩)
      | (rw [if_neg (by omega), if_neg (by omega), if_pos h1]
         exact ⟨rfl, rfl⟩)
      | (rw [if_neg (by omega), if_neg (by omega), if_neg (by omega), if_pos h1]
         exact ⟨rfl, rfl⟩)
      | (rw [if_neg (by omega), if_neg (by omega), if_neg (by omega), if_neg (by omega), if_pos h1]
         exact ⟨rfl, rfl⟩)
      | (rw [if_neg (by omega), if_neg (by omega), if_neg (by omega), if_neg (by omega), if_neg (by omega), if_pos h1]
         exact ⟨rfl, rfl⟩)
      | (rw [if_neg (by omega), if_neg (by omega), if_neg (by omega), if_neg (by omega), if_neg (by omega), if_neg (by omega), if_pos h1]
         exact ⟨rfl, rfl⟩)
      | (rw [if_neg (by omega), if_neg (by omega), if_neg (by omega), if_neg (by omega), if_neg (by omega), if_neg (by omega), if_neg (by omega)]
         exact ⟨rfl, rfl⟩)
  · refine go_tableIn 121 (pc := 1) dX4_actOf_1 (by rw [nI_toInt (by omega)]; omega) (by rw [nI_toInt (by omega)]; omega) (by rw [nI_toInt (by omega)]; rw [h1]; rfl) (by decide) ?_
    refine go_bipush (-15) (pc := 121) dX4_actOf_121 (by decide) ?_
    refine go_ireturn (pc := 123) dX4_actOf_123 rfl ?_
    first
      | (rw [if_pos h1]
         exact ⟨rfl, rfl⟩)
      | (rw [if_neg (by omega), if_pos h1]
         exact ⟨rfl, rfl⟩)
      | (rw [if_neg (by omega), if_neg (by omega), if_pos h1]
         exact ⟨rfl, rfl⟩)
      | (rw [if_neg (by omega), if_neg (by omega), if_neg (by omega), if_pos h1]
         exact ⟨rfl, rfl⟩)
      | (rw [if_neg (by omega), if_neg (by omega), if_neg (by omega), if_neg (by omega), if_pos h1]
         exact ⟨rfl, rfl⟩)
      | (rw [if_neg (by omega), if_neg (by omega), if_neg (by omega), if_neg (by omega), if_neg (by omega), if_pos h1]
         exact ⟨rfl, rfl⟩)
      | (rw [if_neg (by omega), if_neg (by omega), if_neg (by omega), if_neg (by omega), if_neg (by omega), if_neg (by omega), if_pos h1]
         exact ⟨rfl, rfl⟩)
      | (rw [if_neg (by omega), if_neg (by omega), if_neg (by omega), if_neg (by omega), if_neg (by omega), if_neg (by omega), if_neg (by omega)]
         exact ⟨rfl, rfl⟩)
  · refine go_tableIn 121 (pc := 1) dX4_actOf_1 (by rw [nI_toInt (by omega)]; omega) (by rw [nI_toInt (by omega)]; omega) (by rw [nI_toInt (by omega)]; rw [h1]; rfl) (by decide) ?_
    refine go_bipush (-15) (pc := 121) dX4_actOf_121 (by decide) ?_
    refine go_ireturn (pc := 123) dX4_actOf_123 rfl ?_
    first
      | (rw [if_pos h1]
         exact ⟨rfl, rfl⟩)
      | (rw [if_neg (by omega), if_pos h1]
         exact ⟨rfl, rfl⟩)
      | (rw [if_neg (by omega), if_neg (by omega), if_pos h1]
         exact ⟨rfl, rfl⟩)
      | (rw [if_neg (by omega), if_neg (by omega), if_neg (by omega), if_pos h1]
         exact ⟨rfl, rfl⟩)
      | (rw [if_neg (by omega), if_neg (by omega), if_neg (by omega), if_neg (by omega), if_pos h1]
         exact ⟨rfl, rfl⟩)
      | (rw [if_neg (by omega), if_neg (by omega), if_neg (by omega), if_neg (by omega), if_neg (by omega), if_pos h1]
         exact ⟨rfl, rfl⟩)
      | (rw [if_neg (by omega), if_neg (by omega), if_neg (by omega), if_neg (by omega), if_neg (by omega), if_neg (by omega), if_pos h1]
         exact ⟨rfl, rfl⟩)
      | (rw [if_neg (by omega), if_neg (by omega), if_neg (by omega), if_neg (by omega), if_neg (by omega), if_neg (by omega), if_neg (by omega)]
         exact ⟨rfl, rfl⟩)
  · refine go_tableIn 121 (pc := 1) dX4_actOf_1 (by rw [nI_toInt (by omega)]; omega) (by rw [nI_toInt (by omega)]; omega) (by rw [nI_toInt (by omega)]; rw [h1]; rfl) (by decide) ?_
    refine go_bipush (-15) (pc := 121) dX4_actOf_121 (by decide) ?_
    refine go_ireturn (pc := 123) dX4_actOf_123 rfl ?_
    first
      | (rw [if_pos h1]
         exact ⟨rfl, rfl⟩)
      | (rw [if_neg (by omega), if_pos h1]
         exact ⟨rfl, rfl⟩)
      | (rw [if_neg (by omega), if_neg (by omega), if_pos h1]
         exact ⟨rfl, rfl⟩)
      | (rw [if_neg (by omega), if_neg (by omega), if_neg (by omega), if_pos h1]
         exact ⟨rfl, rfl⟩)
      | (rw [if_neg (by omega), if_neg (by omega), if_neg (by omega), if_neg (by omega), if_pos h1]
         exact ⟨rfl, rfl⟩)
      | (rw [if_neg (by omega), if_neg (by omega), if_neg (by omega), if_neg (by omega), if_neg (by omega), if_pos h1]
         exact ⟨rfl, rfl⟩)
      | (rw [if_neg (by omega), if_neg (by omega), if_neg (by omega), if_neg (by omega), if_neg (by omega), if_neg (by omega), if_pos h1]
         exact ⟨rfl, rfl⟩)
      | (rw [if_neg (by omega), if_neg (by omega), if_neg (by omega), if_neg (by omega), if_neg (by omega), if_neg (by omega), if_neg (by omega)]
         exact ⟨rfl, rfl⟩)
  · refine go_tableIn 121 (pc := 1) dX4_actOf_1 (by rw [nI_toInt (by omega)]; omega) (by rw [nI_toInt (by omega)]; omega) (by rw [nI_toInt (by omega)]; rw [h1]; rfl) (by decide) ?_
    refine go_bipush (-15) (pc := 121) dX4_actOf_121 (by decide) ?_
    refine go_ireturn (pc := 123) dX4_actOf_123 rfl ?_
    first
      | (rw [if_pos h1]
         exact ⟨rfl, rfl⟩)
      | (rw [if_neg (by omega), if_pos h1]
         exact ⟨rfl, rfl⟩)
      | (rw [if_neg (by omega), if_neg (by omega), if_pos h1]
         exact ⟨rfl, rfl⟩)
      | (rw [if_neg (by omega), if_neg (by omega), if_neg (by omega), if_pos h1]
         exact ⟨rfl, rfl⟩)
      | (rw [if_neg (by omega), if_neg (by omega), if_neg (by omega), if_neg (by omega), if_pos h1]
         exact ⟨rfl, rfl⟩)
      | (rw [if_neg (by omega), if_neg (by omega), if_neg (by omega), if_neg (by omega), if_neg (by omega), if_pos h1]
         exact ⟨rfl, rfl⟩)
      | (rw [if_neg (by omega), if_neg (by omega), if_neg (by omega), if_neg (by omega), if_neg (by omega), if_neg (by omega), if_pos h1]
         exact ⟨rfl, rfl⟩)
      | (rw [if_neg (by omega), if_neg (by omega), if_neg (by omega), if_neg (by omega), if_neg (by omega), if_neg (by omega), if_neg (by omega)]
         exact ⟨rfl, rfl⟩)
  · refine go_tableIn 121 (pc := 1) dX4_actOf_1 (by rw [nI_toInt (by omega)]; omega) (by rw [nI_toInt (by omega)]; omega) (by rw [nI_toInt (by omega)]; rw [h1]; rfl) (by decide) ?_
    refine go_bipush (-15) (pc := 121) dX4_actOf_121 (by decide) ?_
    refine go_ireturn (pc := 123) dX4_actOf_123 rfl ?_
    first
      | (rw [if_pos h1]
         exact ⟨rfl, rfl⟩)
      | (rw [if_neg (by omega), if_pos h1]
         exact ⟨rfl, rfl⟩)
      | (rw [if_neg (by omega), if_neg (by omega), if_pos h1]
         exact ⟨rfl, rfl⟩)
      | (rw [if_neg (by omega), if_neg (by omega), if_neg (by omega), if_pos h1]
         exact ⟨rfl, rfl⟩)
      | (rw [if_neg (by omega), if_neg (by omega), if_neg (by omega), if_neg (by omega), if_pos h1]
         exact ⟨rfl, rfl⟩)
      | (rw [if_neg (by omega), if_neg (by omega), if_neg (by omega), if_neg (by omega), if_neg (by omega), if_pos h1]
         exact ⟨rfl, rfl⟩)
      | (rw [if_neg (by omega), if_neg (by omega), if_neg (by omega), if_neg (by omega), if_neg (by omega), if_neg (by omega), if_pos h1]
         exact ⟨rfl, rfl⟩)
      | (rw [if_neg (by omega), if_neg (by omega), if_neg (by omega), if_neg (by omega), if_neg (by omega), if_neg (by omega), if_neg (by omega)]
         exact ⟨rfl, rfl⟩)
  · refine go_tableIn 121 (pc := 1) dX4_actOf_1 (by rw [nI_toInt (by omega)]; omega) (by rw [nI_toInt (by omega)]; omega) (by rw [nI_toInt (by omega)]; rw [h1]; rfl) (by decide) ?_
    refine go_bipush (-15) (pc := 121) dX4_actOf_121 (by decide) ?_
    refine go_ireturn (pc := 123) dX4_actOf_123 rfl ?_
    first
      | (rw [if_pos h1]
         exact ⟨rfl, rfl⟩)
      | (rw [if_neg (by omega), if_pos h1]
         exact ⟨rfl, rfl⟩)
      | (rw [if_neg (by omega), if_neg (by omega), if_pos h1]
         exact ⟨rfl, rfl⟩)
      | (rw [if_neg (by omega), if_neg (by omega), if_neg (by omega), if_pos h1]
         exact ⟨rfl, rfl⟩)
      | (rw [if_neg (by omega), if_neg (by omega), if_neg (by omega), if_neg (by omega), if_pos h1]
         exact ⟨rfl, rfl⟩)
      | (rw [if_neg (by omega), if_neg (by omega), if_neg (by omega), if_neg (by omega), if_neg (by omega), if_pos h1]
         exact ⟨rfl, rfl⟩)
      | (rw [if_neg (by omega), if_neg (by omega), if_neg (by omega), if_neg (by omega), if_neg (by omega), if_neg (by omega), if_pos h1]
         exact ⟨rfl, rfl⟩)
      | (rw [if_neg (by omega), if_neg (by omega), if_neg (by omega), if_neg (by omega), if_neg (by omega), if_neg (by omega), if_neg (by omega)]
         exact ⟨rfl, rfl⟩)
  · refine go_tableIn 121 (pc := 1) dX4_actOf_1 (by rw [nI_toInt (by omega)]; omega) (by rw [nI_toInt (by omega)]; omega) (by rw [nI_toInt (by omega)]; rw [h1]; rfl) (by decide) ?_
    refine go_bipush (-15) (pc := 121) dX4_actOf_121 (by decide) ?_
    refine go_ireturn (pc := 123) dX4_actOf_123 rfl ?_
    first
      | (rw [if_pos h1]
         exact ⟨rfl, rfl⟩)
      | (rw [if_neg (by omega), if_pos h1]
         exact ⟨rfl, rfl⟩)
      | (rw [if_neg (by omega), if_neg (by omega), if_pos h1]
         exact ⟨rfl, rfl⟩)
      | (rw [if_neg (by omega), if_neg (by omega), if_neg (by omega), if_pos h1]
         exact ⟨rfl, rfl⟩)
      | (rw [if_neg (by omega), if_neg (by omega), if_neg (by omega), if_neg (by omega), if_pos h1]
         exact ⟨rfl, rfl⟩)
      | (rw [if_neg (by omega), if_neg (by omega), if_neg (by omega), if_neg (by omega), if_neg (by omega), if_pos h1]
         exact ⟨rfl, rfl⟩)
      | (rw [if_neg (by omega), if_neg (by omega), if_neg (by omega), if_neg (by omega), if_neg (by omega), if_neg (by omega), if_pos h1]
         exact ⟨rfl, rfl⟩)
      | (rw [if_neg (by omega), if_neg (by omega), if_neg (by omega), if_neg (by omega), if_neg (by omega), if_neg (by omega), if_neg (by omega)]
         exact ⟨rfl, rfl⟩)
  · refine go_tableIn 121 (pc := 1) dX4_actOf_1 (by rw [nI_toInt (by omega)]; omega) (by rw [nI_toInt (by omega)]; omega) (by rw [nI_toInt (by omega)]; rw [h1]; rfl) (by decide) ?_
    refine go_bipush (-15) (pc := 121) dX4_actOf_121 (by decide) ?_
    refine go_ireturn (pc := 123) dX4_actOf_123 rfl ?_
    first
      | (rw [if_pos h1]
         exact ⟨rfl, rfl⟩)
      | (rw [if_neg (by omega), if_pos h1]
         exact ⟨rfl, rfl⟩)
      | (rw [if_neg (by omega), if_neg (by omega), if_pos h1]
         exact ⟨rfl, rfl⟩)
      | (rw [if_neg (by omega), if_neg (by omega), if_neg (by omega), if_pos h1]
         exact ⟨rfl, rfl⟩)
      | (rw [if_neg (by omega), if_neg (by omega), if_neg (by omega), if_neg (by omega), if_pos h1]
         exact ⟨rfl, rfl⟩)
      | (rw [if_neg (by omega), if_neg (by omega), if_neg (by omega), if_neg (by omega), if_neg (by omega), if_pos h1]
         exact ⟨rfl, rfl⟩)
      | (rw [if_neg (by omega), if_neg (by omega), if_neg (by omega), if_neg (by omega), if_neg (by omega), if_neg (by omega), if_pos h1]
         exact ⟨rfl, rfl⟩)
      | (rw [if_neg (by omega), if_neg (by omega), if_neg (by omega), if_neg (by omega), if_neg (by omega), if_neg (by omega), if_neg (by omega)]
         exact ⟨rfl, rfl⟩)
  · refine go_tableIn 121 (pc := 1) dX4_actOf_1 (by rw [nI_toInt (by omega)]; omega) (by rw [nI_toInt (by omega)]; omega) (by rw [nI_toInt (by omega)]; rw [h1]; rfl) (by decide) ?_
    refine go_bipush (-15) (pc := 121) dX4_actOf_121 (by decide) ?_
    refine go_ireturn (pc := 123) dX4_actOf_123 rfl ?_
    first
      | (rw [if_pos h1]
         exact ⟨rfl, rfl⟩)
      | (rw [if_neg (by omega), if_pos h1]
         exact ⟨rfl, rfl⟩)
      | (rw [if_neg (by omega), if_neg (by omega), if_pos h1]
         exact ⟨rfl, rfl⟩)
      | (rw [if_neg (by omega), if_neg (by omega), if_neg (by omega), if_pos h1]
         exact ⟨rfl, rfl⟩)
      | (rw [if_neg (by omega), if_neg (by omega), if_neg (by omega), if_neg (by omega), if_pos h1]
         exact ⟨rfl, rfl⟩)
      | (rw [if_neg (by omega), if_neg (by omega), if_neg (by omega), if_neg (by omega), if_neg (by omega), if_pos h1]
         exact ⟨rfl, rfl⟩)
      | (rw [if_neg (by omega), if_neg (by omega), if_neg (by omega), if_neg (by omega), if_neg (by omega), if_neg (by omega), if_pos h1]
         exact ⟨rfl, rfl⟩)
      | (rw [if_neg (by omega), if_neg (by omega), if_neg (by omega), if_neg (by omega), if_neg (by omega), if_neg (by omega), if_neg (by omega)]
         exact ⟨rfl, rfl⟩)
  · refine go_tableIn 121 (pc := 1) dX4_actOf_1 (by rw [nI_toInt (by omega)]; omega) (by rw [nI_toInt (by omega)]; omega) (by rw [nI_toInt (by omega)]; rw [h1]; rfl) (by decide) ?_
    refine go_bipush (-15) (pc := 121) dX4_actOf_121 (by decide) ?_
    refine go_ireturn (pc := 123) dX4_actOf_123 rfl ?_
    first
      | (rw [if_pos h1]
         exact ⟨rfl, rfl⟩)
      | (rw [if_neg (by omega), if_pos h1]
         exact ⟨rfl, rfl⟩)
      | (rw [if_neg (by omega), if_neg (by omega), if_pos h1]
         exact ⟨rfl, rfl⟩)
      | (rw [if_neg (by omega), if_neg (by omega), if_neg (by omega), if_pos h1]
         exact ⟨rfl, rfl⟩)
      | (rw [if_neg (by omega), if_neg (by omega), if_neg (by omega), if_neg (by omega), if_pos h1]
         exact ⟨rfl, rfl⟩)
      | (rw [if_neg (by omega), if_neg (by omega), if_neg (by omega), if_neg (by omega), if_neg (by omega), if_pos h1]
         exact ⟨rfl, rfl⟩)
      | (rw [if_neg (by omega), if_neg (by omega), if_neg (by omega), if_neg (by omega), if_neg (by omega), if_neg (by omega), if_pos h1]
         exact ⟨rfl, rfl⟩)
      | (rw [if_neg (by omega), if_neg (by omega), if_neg (by omega), if_neg (by omega), if_neg (by omega), if_neg (by omega), if_neg (by omega)]
         exact ⟨rfl, rfl⟩)
  · refine go_tableIn 112 (pc := 1) dX4_actOf_1 (by rw [nI_toInt (by omega)]; omega) (by rw [nI_toInt (by omega)]; omega) (by rw [nI_toInt (by omega)]; rw [h1]; rfl) (by decide) ?_
    refine go_bipush (-11) (pc := 112) dX4_actOf_112 (by decide) ?_
    refine go_ireturn (pc := 114) dX4_actOf_114 rfl ?_
    first
      | (rw [if_pos h1]
         exact ⟨rfl, rfl⟩)
      | (rw [if_neg (by omega), if_pos h1]
         exact ⟨rfl, rfl⟩)
      | (rw [if_neg (by omega), if_neg (by omega), if_pos h1]
         exact ⟨rfl, rfl⟩)
      | (rw [if_neg (by omega), if_neg (by omega), if_neg (by omega), if_pos h1]
         exact ⟨rfl, rfl⟩)
      | (rw [if_neg (by omega), if_neg (by omega), if_neg (by omega), if_neg (by omega), if_pos h1]
         exact ⟨rfl, rfl⟩)
      | (rw [if_neg (by omega), if_neg (by omega), if_neg (by omega), if_neg (by omega), if_neg (by omega), if_pos h1]
         exact ⟨rfl, rfl⟩)
      | (rw [if_neg (by omega), if_neg (by omega), if_neg (by omega), if_neg (by omega), if_neg (by omega), if_neg (by omega), if_pos h1]
         exact ⟨rfl, rfl⟩)
      | (rw [if_neg (by omega), if_neg (by omega), if_neg (by omega), if_neg (by omega), if_neg (by omega), if_neg (by omega), if_neg (by omega)]
         exact ⟨rfl, rfl⟩)
  · refine go_tableIn 118 (pc := 1) dX4_actOf_1 (by rw [nI_toInt (by omega)]; omega) (by rw [nI_toInt (by omega)]; omega) (by rw [nI_toInt (by omega)]; rw [h1]; rfl) (by decide) ?_
    refine go_bipush (-13) (pc := 118) dX4_actOf_118 (by decide) ?_
    refine go_ireturn (pc := 120) dX4_actOf_120 rfl ?_
    first
      | (rw [if_pos h1]
         exact ⟨rfl, rfl⟩)
      | (rw [if_neg (by omega), if_pos h1]
         exact ⟨rfl, rfl⟩)
      | (rw [if_neg (by omega), if_neg (by omega), if_pos h1]
         exact ⟨rfl, rfl⟩)
      | (rw [if_neg (by omega), if_neg (by omega), if_neg (by omega), if_pos h1]
         exact ⟨rfl, rfl⟩)
      | (rw [if_neg (by omega), if_neg (by omega), if_neg (by omega), if_neg (by omega), if_pos h1]
         exact ⟨rfl, rfl⟩)
      | (rw [if_neg (by omega), if_neg (by omega), if_neg (by omega), if_neg (by omega), if_neg (by omega), if_pos h1]
         exact ⟨rfl, rfl⟩)
      | (rw [if_neg (by omega), if_neg (by omega), if_neg (by omega), if_neg (by omega), if_neg (by omega), if_neg (by omega), if_pos h1]
         exact ⟨rfl, rfl⟩)
      | (rw [if_neg (by omega), if_neg (by omega), if_neg (by omega), if_neg (by omega), if_neg (by omega), if_neg (by omega), if_neg (by omega)]
         exact ⟨rfl, rfl⟩)
  · refine go_tableIn 115 (pc := 1) dX4_actOf_1 (by rw [nI_toInt (by omega)]; omega) (by rw [nI_toInt (by omega)]; omega) (by rw [nI_toInt (by omega)]; rw [h1]; rfl) (by decide) ?_
    refine go_bipush (-12) (pc := 115) dX4_actOf_115 (by decide) ?_
    refine go_ireturn (pc := 117) dX4_actOf_117 rfl ?_
    first
      | (rw [if_pos h1]
         exact ⟨rfl, rfl⟩)
      | (rw [if_neg (by omega), if_pos h1]
         exact ⟨rfl, rfl⟩)
      | (rw [if_neg (by omega), if_neg (by omega), if_pos h1]
         exact ⟨rfl, rfl⟩)
      | (rw [if_neg (by omega), if_neg (by omega), if_neg (by omega), if_pos h1]
         exact ⟨rfl, rfl⟩)
      | (rw [if_neg (by omega), if_neg (by omega), if_neg (by omega), if_neg (by omega), if_pos h1]
         exact ⟨rfl, rfl⟩)
      | (rw [if_neg (by omega), if_neg (by omega), if_neg (by omega), if_neg (by omega), if_neg (by omega), if_pos h1]
         exact ⟨rfl, rfl⟩)
      | (rw [if_neg (by omega), if_neg (by omega), if_neg (by omega), if_neg (by omega), if_neg (by omega), if_neg (by omega), if_pos h1]
         exact ⟨rfl, rfl⟩)
      | (rw [if_neg (by omega), if_neg (by omega), if_neg (by omega), if_neg (by omega), if_neg (by omega), if_neg (by omega), if_neg (by omega)]
         exact ⟨rfl, rfl⟩)

theorem c_X4_placeWaiting {E : zE} {σ : zT} {k r1 d : Nat} {due : Bool} {W S : List Nat} {c : Nat → Bool} (hk : zRl k = true) (hr : 1 ≤ r1) (hr4 : r1 ≤ 4) (hR : RdIs σ k due W S d c) (hl : S.length + W.length ≤ 40) : CalM E 1 yX4_placeWaiting cX4_placeWaiting 2 none [.ref (zA E k 0), .int (nI r1)] σ (fun r σ' => r = none ∧ RdIs σ' k due (popS r1 W S).1 (popS r1 W S).2 d c ∧ FrG [k] σ σ') := by
  refine cal_of_go (own := RX4) rfl (by decide +kernel) (Nat.le_of_ble_eq_true rfl) ?_
  have loop : ∀ (W S : List Nat) (τ : zT), RdIs τ k due W S d c → S.length + W.length ≤ 40 → FrG [k] σ τ → GoM E 1 RX4 cX4_placeWaiting 2 none (fun r σ' => r = none ∧ RdIs σ' k due (popS r1 W S).1 (popS r1 W S).2 d c ∧ FrG [k] σ σ') τ 0 [(0, .ref (zA E k 0)), (1, .int (nI r1))] [] := by
    intro W
    induction W with
    | nil =>
      intro S τ hR hl hF
      have q5 : τ.1 k 5 = nI 0 := hR.2.2.1
      refine go_aload_n (i := 0) (pc := 0) dX4_placeWaiting_0 rfl rfl ?_
      refine go_geti fl_X4_38 (pc := 1) dX4_placeWaiting_1 (by first | rfl | (apply zL_fi <;> first | assumption | decide) | (apply zR_fi <;> first | assumption | decide)) ?_
      rw [q5]
      refine go_if_le 60 (pc := 4) dX4_placeWaiting_4 (by decide) (fun h4 => ?_) (fun h4 => ?_)
      · first | rw [zb_0d] at h4 | rw [zn_le0 (by omega)] at h4 | rw [zi_le0] at h4
        refine go_return (pc := 60) dX4_placeWaiting_60 rfl ?_
        exact ⟨rfl, hR, hF⟩
      · first | rw [zb_0d] at h4 | rw [zn_le0 (by omega)] at h4 | rw [zi_le0] at h4
        exact absurd (Nat.le_refl 0) h4
    | cons a W ih =>
      intro S τ hR hl hF
      have hR0 := hR
      obtain ⟨q4, q1, q5, q2, q6, q7, q8⟩ := hR
      simp only [List.length_cons] at hl q5
      have hrk := rkT_le a
      refine go_aload_n (i := 0) (pc := 0) dX4_placeWaiting_0 rfl rfl ?_
      refine go_geti fl_X4_38 (pc := 1) dX4_placeWaiting_1 (by first | rfl | (apply zL_fi <;> first | assumption | decide) | (apply zR_fi <;> first | assumption | decide)) ?_
      rw [q5]
      refine go_if_le 60 (pc := 4) dX4_placeWaiting_4 (by decide) (fun h4 => ?_) (fun h4 => ?_)
      · first | rw [zb_0d] at h4 | rw [zn_le0 (by omega)] at h4 | rw [zi_le0] at h4
        exfalso
        omega
      · first | rw [zb_0d] at h4 | rw [zn_le0 (by omega)] at h4 | rw [zi_le0] at h4
        refine go_aload_n (i := 0) (pc := 7) dX4_placeWaiting_7 rfl rfl ?_
        refine go_geti fl_X4_38 (pc := 8) dX4_placeWaiting_8 (by first | rfl | (apply zL_fi <;> first | assumption | decide) | (apply zR_fi <;> first | assumption | decide)) ?_
        rw [q5]
        refine go_bipush (nI 40) (pc := 11) dX4_placeWaiting_11 (by decide) ?_
        refine go_icmp_gt 60 (pc := 13) dX4_placeWaiting_13 (by decide) (fun h13 => ?_) (fun h13 => ?_)
        · first | rw [nI_ltI (by omega) (by omega)] at h13 | rw [zi_ltN (by omega)] at h13 | rw [zi_Nlt (by omega)] at h13 | rw [zi_lt] at h13
          exfalso
          omega
        · first | rw [nI_ltI (by omega) (by omega)] at h13 | rw [zi_ltN (by omega)] at h13 | rw [zi_Nlt (by omega)] at h13 | rw [zi_lt] at h13
          refine go_aload_n (i := 0) (pc := 16) dX4_placeWaiting_16 rfl rfl ?_
          refine go_getr2 fl_X4_15 (pc := 17) dX4_placeWaiting_17 (by first | rfl | (apply zL_ci <;> assumption) | (apply zR_ci <;> assumption)) (by first | rfl | (apply zL_in <;> first | assumption | decide) | (apply zR_in <;> first | assumption | decide)) (by first | rfl | (apply zL_fr0 <;> assumption) | (apply zL_fr1 <;> assumption) | (apply zR_fr0 <;> assumption) | (apply zR_fr1 <;> assumption) | (apply zR_fr2 <;> assumption) | (apply zR_fr3 <;> assumption)) ?_
          refine go_aload_n (i := 0) (pc := 20) dX4_placeWaiting_20 rfl rfl ?_
          refine go_geti fl_X4_38 (pc := 21) dX4_placeWaiting_21 (by first | rfl | (apply zL_fi <;> first | assumption | decide) | (apply zR_fi <;> first | assumption | decide)) ?_
          rw [q5]
          refine go_iconst (nI 1) (pc := 24) dX4_placeWaiting_24 (by decide) ?_
          first | with_reducible refine go_isubN (pc := 25) dX4_placeWaiting_25 (by omega) ?_ | refine go_isub (pc := 25) dX4_placeWaiting_25 ?_
          refine go_iaload W.length (pc := 26) dX4_placeWaiting_26 (by first | rfl | (apply zL_ar1 <;> assumption) | (apply zL_ar2 <;> assumption) | (apply zR_ar1 <;> assumption) | (apply zR_ar2 <;> assumption) | (apply zR_ar3 <;> assumption) | (apply zR_ar4 <;> assumption)) (by first | rfl | (apply zL_jn <;> first | assumption | decide) | (apply zR_jn <;> first | assumption | decide)) rfl (by omega) ?_
          rw [q2.1.1]
          refine go_callS ml_X4_74 mt_X4_rank (pc := 27) dX4_placeWaiting_27 (c_X4_rank q2.1.2) (by decide) (by decide) rfl rfl (Nat.le_of_ble_eq_true rfl) (fun r σ' hp => ?_)
          obtain ⟨rfl, hσ⟩ := hp
          rw [hσ]
          clear hσ σ'
          dsimp only [zRet]
          refine go_iload_n (i := 1) (pc := 30) dX4_placeWaiting_30 rfl rfl ?_
          refine go_icmp_lt 60 (pc := 31) dX4_placeWaiting_31 (by decide) (fun h31 => ?_) (fun h31 => ?_)
          · first | rw [nI_ltI (by omega) (by omega)] at h31 | rw [zi_ltN (by omega)] at h31 | rw [zi_Nlt (by omega)] at h31 | rw [zi_lt] at h31
            refine go_return (pc := 60) dX4_placeWaiting_60 rfl ?_
            rw [show popS r1 (a :: W) S = (a :: W, S) by rw [popS, if_neg (by omega)]]
            exact ⟨rfl, hR0, hF⟩
          · first | rw [nI_ltI (by omega) (by omega)] at h31 | rw [zi_ltN (by omega)] at h31 | rw [zi_Nlt (by omega)] at h31 | rw [zi_lt] at h31
            refine go_aload_n (i := 0) (pc := 34) dX4_placeWaiting_34 rfl rfl ?_
            refine go_dup (pc := 35) dX4_placeWaiting_35 rfl ?_
            refine go_geti fl_X4_38 (pc := 36) dX4_placeWaiting_36 (by first | rfl | (apply zL_fi <;> first | assumption | decide) | (apply zR_fi <;> first | assumption | decide)) ?_
            rw [q5]
            refine go_iconst (nI 1) (pc := 39) dX4_placeWaiting_39 (by decide) ?_
            first | with_reducible refine go_isubN (pc := 40) dX4_placeWaiting_40 (by omega) ?_ | refine go_isub (pc := 40) dX4_placeWaiting_40 ?_
            refine go_puti fp_X4_38 (pc := 41) dX4_placeWaiting_41 (by first | rfl | (apply zL_fi <;> first | assumption | decide) | (apply zR_fi <;> first | assumption | decide)) rfl rfl ?_
            refine go_aload_n (i := 0) (pc := 44) dX4_placeWaiting_44 rfl rfl ?_
            refine go_aload_n (i := 0) (pc := 45) dX4_placeWaiting_45 rfl rfl ?_
            refine go_getr2 fl_X4_15 (pc := 46) dX4_placeWaiting_46 (by first | rfl | (apply zL_ci <;> assumption) | (apply zR_ci <;> assumption)) (by first | rfl | (apply zL_in <;> first | assumption | decide) | (apply zR_in <;> first | assumption | decide)) (by first | rfl | (apply zL_fr0 <;> assumption) | (apply zL_fr1 <;> assumption) | (apply zR_fr0 <;> assumption) | (apply zR_fr1 <;> assumption) | (apply zR_fr2 <;> assumption) | (apply zR_fr3 <;> assumption)) ?_
            refine go_aload_n (i := 0) (pc := 49) dX4_placeWaiting_49 rfl rfl ?_
            refine go_geti fl_X4_38 (pc := 50) dX4_placeWaiting_50 (by first | rfl | (apply zL_fi <;> first | assumption | decide) | (apply zR_fi <;> first | assumption | decide)) ?_
            rw [uS_s]
            refine go_iaload W.length (pc := 53) dX4_placeWaiting_53 (by first | rfl | (apply zL_ar1 <;> assumption) | (apply zL_ar2 <;> assumption) | (apply zR_ar1 <;> assumption) | (apply zR_ar2 <;> assumption) | (apply zR_ar3 <;> assumption) | (apply zR_ar4 <;> assumption)) (by first | rfl | (apply zL_jn <;> first | assumption | decide) | (apply zR_jn <;> first | assumption | decide)) rfl (by omega) ?_
            rw [show (uS τ k 5 (nI (W.length + 1 - 1))).2.1 k 2 W.length = ctw a from q2.1.1, ctw_c (by intro q; rw [q, show rkT 4000 = 0 from rfl] at h31; omega)]
            refine go_callV ml_X4_34 mt_X4_addStep (pc := 54) dX4_placeWaiting_54 (c_X4_addStep (t := a) (W := W) (S := S) (due := due) (d := d) (c := c) hk hR0.s5 (by omega)) (by first | rfl | (apply zL_cq <;> assumption) | (apply zR_cq <;> assumption)) rfl (by first | rfl | (apply zL_in <;> first | assumption | decide) | (apply zR_in <;> first | assumption | decide)) (by decide) (by decide) rfl rfl (Nat.le_of_ble_eq_true rfl) (fun r σ' hp => ?_)
            obtain ⟨rfl, hR1, hF1⟩ := hp
            dsimp only [zRet]
            refine go_goto 0 (pc := 57) dX4_placeWaiting_57 (by decide) ?_
            rw [show popS r1 (a :: W) S = popS r1 W (S ++ [a]) by rw [popS, if_pos (by omega)]]
            exact ih (S ++ [a]) _ hR1 (by rw [List.length_append]; simp only [List.length_cons, List.length_nil]; omega) ((hF.uS (by simp)).tr hF1)
  exact loop W S σ hR hl FrG.rf

