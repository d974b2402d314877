/-! a Land: a row of 29 numbers (hedges 0 .., men 12 .., gates 24, cheap 25, dear 26, week 27, over 28) and how many miles -/
def menSum (n : Nat) (ρ : Nat → Nat) : Nat := sumN n (fun i => ρ (12 + i))
def menCnt (n : Nat) (ρ : Nat → Nat) : Nat := sumN n (fun i => if ρ (12 + i) = 0 then 0 else 1)
def menOth (n : Nat) (ρ : Nat → Nat) (m : Nat) : Nat := sumN n (fun i => if i = m ∨ ρ (12 + i) = 0 then 0 else 1)
def hedSum (n : Nat) (ρ : Nat → Nat) : Nat := sumN n ρ
def RowOK (n : Nat) (ρ : Nat → Nat) : Prop := 1 ≤ n ∧ n ≤ 12 ∧ (∀ i, i < 24 → ρ i ≤ 9) ∧ ρ 24 < 2 ^ n ∧ ρ 25 ≤ 99 ∧ ρ 26 ≤ 99 ∧ ρ 27 < 2 ^ 28 ∧ ρ 28 < 2 ^ 28
def lf (n : Nat) (ρ : Nat → Nat) (f : Nat) : Nat := match f with
  | 2 => n | 3 => ρ 24 | 4 => menSum n ρ | 5 => menCnt n ρ | 6 => ρ 25 | 7 => ρ 26 | 8 => ρ 27 | _ => ρ 28
def LandIs (σ : zT) (k n : Nat) (ρ : Nat → Nat) : Prop := RowOK n ρ ∧ (∀ f, 2 ≤ f → f < 10 → σ.1 k f = nI (lf n ρ f)) ∧ ∀ i, i < 12 → σ.2.1 k 1 i = nI (ρ i) ∧ σ.2.1 k 2 i = nI (ρ (12 + i))
theorem LandIs.f2 {σ : zT} {k n : Nat} {ρ : Nat → Nat} (h : LandIs σ k n ρ) : σ.1 k 2 = nI n := h.2.1 2 (by decide) (by decide)
theorem LandIs.f3 {σ : zT} {k n : Nat} {ρ : Nat → Nat} (h : LandIs σ k n ρ) : σ.1 k 3 = nI (ρ 24) := h.2.1 3 (by decide) (by decide)
theorem LandIs.f4 {σ : zT} {k n : Nat} {ρ : Nat → Nat} (h : LandIs σ k n ρ) : σ.1 k 4 = nI (menSum n ρ) := h.2.1 4 (by decide) (by decide)
theorem LandIs.f5 {σ : zT} {k n : Nat} {ρ : Nat → Nat} (h : LandIs σ k n ρ) : σ.1 k 5 = nI (menCnt n ρ) := h.2.1 5 (by decide) (by decide)
theorem LandIs.f6 {σ : zT} {k n : Nat} {ρ : Nat → Nat} (h : LandIs σ k n ρ) : σ.1 k 6 = nI (ρ 25) := h.2.1 6 (by decide) (by decide)
theorem LandIs.f7 {σ : zT} {k n : Nat} {ρ : Nat → Nat} (h : LandIs σ k n ρ) : σ.1 k 7 = nI (ρ 26) := h.2.1 7 (by decide) (by decide)
theorem LandIs.f8 {σ : zT} {k n : Nat} {ρ : Nat → Nat} (h : LandIs σ k n ρ) : σ.1 k 8 = nI (ρ 27) := h.2.1 8 (by decide) (by decide)
theorem LandIs.f9 {σ : zT} {k n : Nat} {ρ : Nat → Nat} (h : LandIs σ k n ρ) : σ.1 k 9 = nI (ρ 28) := h.2.1 9 (by decide) (by decide)
theorem LandIs.b {σ : zT} {k n : Nat} {ρ : Nat → Nat} (h : LandIs σ k n ρ) : 1 ≤ n ∧ n ≤ 12 := ⟨h.1.1, h.1.2.1⟩
theorem LandIs.fr {σ σ' : zT} {k n : Nat} {ρ : Nat → Nat} {S : List Nat} (h : LandIs σ k n ρ) (hf : FrG S σ σ') (hk : k ∉ S) : LandIs σ' k n ρ := by
  obtain ⟨h1, h2, h3⟩ := h
  obtain ⟨e1, e2, -⟩ := hf.1 k hk
  exact ⟨h1, fun f q r => by rw [e1]; exact h2 f q r, fun i hi => by rw [e2]; exact h3 i hi⟩
/-- the same numbers, of another group -/
theorem LandIs.cp {σ σ' : zT} {k k2 n : Nat} {ρ : Nat → Nat} (h : LandIs σ k n ρ) (e1 : ∀ f, 2 ≤ f → f < 10 → σ'.1 k2 f = σ.1 k f) (e2 : ∀ i, i < 12 → σ'.2.1 k2 1 i = σ.2.1 k 1 i ∧ σ'.2.1 k2 2 i = σ.2.1 k 2 i) : LandIs σ' k2 n ρ :=
  ⟨h.1, fun f q r => by rw [e1 f q r]; exact h.2.1 f q r, fun i hi => by rw [(e2 i hi).1, (e2 i hi).2]; exact h.2.2 i hi⟩
theorem va_at' {α : Type} (f : Nat → α) (k : Nat) (v : α) (j : Nat) : va_up f k v j = if j = k then v else f j := rfl
theorem menSum_up {n m v : Nat} {ρ : Nat → Nat} (hm : m < n) : menSum n (va_up ρ (12 + m) v) + ρ (12 + m) = menSum n ρ + v := by
  have := sumN_up (v := v) (g := fun i => ρ (12 + i)) hm
  simp only [menSum]
  rw [← this]
  congr 1
  exact sumN_congr (fun i _ => by simp [va_at'])
theorem menCnt_up {n m v : Nat} {ρ : Nat → Nat} (hm : m < n) : menCnt n (va_up ρ (12 + m) v) + (if ρ (12 + m) = 0 then 0 else 1) = menCnt n ρ + (if v = 0 then 0 else 1) := by
  have := sumN_up (v := if v = 0 then 0 else 1) (g := fun i => if ρ (12 + i) = 0 then 0 else 1) hm
  simp only [menCnt]
  rw [← this]
  congr 1
  exact sumN_congr (fun i _ => by by_cases e : i = m <;> simp [va_at', e])
theorem menOth_eq {n m : Nat} {ρ : Nat → Nat} (hm : m < n) : menOth n ρ m + (if ρ (12 + m) = 0 then 0 else 1) = menCnt n ρ := by
  have := sumN_up (v := 0) (g := fun i => if ρ (12 + i) = 0 then 0 else 1) hm
  simp only [menCnt, menOth]
  rw [Nat.add_zero] at this
  rw [← this]
  congr 1
  exact sumN_congr (fun i _ => by by_cases e : i = m <;> simp [e])
theorem lf_lo {n m v f : Nat} {ρ : Nat → Nat} (hm : m < 12) : lf n (va_up ρ m v) f = lf n ρ f := by
  have h : ∀ j, 12 ≤ j → va_up ρ m v j = ρ j := fun j hj => by rw [va_at', if_neg (by omega)]
  have e1 : menSum n (va_up ρ m v) = menSum n ρ := sumN_congr (fun i _ => h _ (by omega))
  have e2 : menCnt n (va_up ρ m v) = menCnt n ρ := sumN_congr (fun i _ => by rw [h _ (by omega)])
  unfold lf
  split <;> first | rfl | exact h _ (by decide) | exact e1 | exact e2
/-- hedges alone -/
theorem RowOK.lo {n m v : Nat} {ρ : Nat → Nat} (h : RowOK n ρ) (hm : m < 12) (hv : v ≤ 9) : RowOK n (va_up ρ m v) := by
  obtain ⟨h1, h2, h3, h4, h5, h6, h7, h8⟩ := h
  have h : ∀ j, 12 ≤ j → va_up ρ m v j = ρ j := fun j hj => by rw [va_at', if_neg (by omega)]
  refine ⟨h1, h2, fun i hi => ?_, by rw [h _ (by decide)]; exact h4, by rw [h _ (by decide)]; exact h5, by rw [h _ (by decide)]; exact h6, by rw [h _ (by decide)]; exact h7, by rw [h _ (by decide)]; exact h8⟩
  rw [va_at']
  split
  · exact hv
  · exact h3 i hi

theorem c_X2_has {E : zE} {σ : zT} {k n : Nat} {ρ : Nat → Nat} {m : Int32} (hk : zL k = true) (hL : LandIs σ k n ρ) : CalM E 0 yX2_has cX2_has 2 (some .boolean) [.ref (zA E k 0), .int m] σ (fun r σ' => r = some (.int (zb (decide (0 ≤ m.toInt ∧ m.toInt < (n : Int))))) ∧ σ' = σ) := by
  refine cal_of_go (own := RX2) rfl (by decide +kernel) (Nat.le_of_ble_eq_true rfl) ?_
  have hn := hL.b
  refine go_iload_n (i := 1) (pc := 0) dX2_has_0 rfl rfl ?_
  refine go_if_lt 22 (pc := 1) dX2_has_1 (by decide) (fun h1 => ?_) (fun h1 => ?_)
  · first | rw [zb_0d] at h1 | rw [zn_lt0 (by omega)] at h1 | rw [zi_lt0] at h1
    refine go_iconst (nI 0) (pc := 22) dX2_has_22 (by decide) ?_
    refine go_zreturn (pc := 23) dX2_has_23 rfl (by first | rfl | (apply zb_nar)) ?_
    first | exact ⟨zr_f (by omega), rfl⟩ | exact ⟨zr_t (by omega), rfl⟩
  · first | rw [zb_0d] at h1 | rw [zn_lt0 (by omega)] at h1 | rw [zi_lt0] at h1
    refine go_iload_n (i := 1) (pc := 4) dX2_has_4 rfl rfl ?_
    refine go_aload_n (i := 0) (pc := 5) dX2_has_5 rfl rfl ?_
    refine go_geti fl_X2_18 (pc := 6) dX2_has_6 (by first | rfl | (apply zL_fi <;> first | assumption | decide) | (apply zR_fi <;> first | assumption | decide)) ?_
    rw [hL.f2]
    refine go_icmp_ge 22 (pc := 9) dX2_has_9 (by decide) (fun h9 => ?_) (fun h9 => ?_)
    · first | rw [nI_leI (by omega) (by omega)] at h9 | rw [zi_leN (by omega)] at h9 | rw [zi_Nle (by omega)] at h9 | rw [zi_le] at h9
      refine go_iconst (nI 0) (pc := 22) dX2_has_22 (by decide) ?_
      refine go_zreturn (pc := 23) dX2_has_23 rfl (by first | rfl | (apply zb_nar)) ?_
      first | exact ⟨zr_f (by omega), rfl⟩ | exact ⟨zr_t (by omega), rfl⟩
    · first | rw [nI_leI (by omega) (by omega)] at h9 | rw [zi_leN (by omega)] at h9 | rw [zi_Nle (by omega)] at h9 | rw [zi_le] at h9
      refine go_iload_n (i := 1) (pc := 12) dX2_has_12 rfl rfl ?_
      refine go_bipush (nI 12) (pc := 13) dX2_has_13 (by decide) ?_
      refine go_icmp_ge 22 (pc := 15) dX2_has_15 (by decide) (fun h15 => ?_) (fun h15 => ?_)
      · first | rw [nI_leI (by omega) (by omega)] at h15 | rw [zi_leN (by omega)] at h15 | rw [zi_Nle (by omega)] at h15 | rw [zi_le] at h15
        refine go_iconst (nI 0) (pc := 22) dX2_has_22 (by decide) ?_
        refine go_zreturn (pc := 23) dX2_has_23 rfl (by first | rfl | (apply zb_nar)) ?_
        first | exact ⟨zr_f (by omega), rfl⟩ | exact ⟨zr_t (by omega), rfl⟩
      · first | rw [nI_leI (by omega) (by omega)] at h15 | rw [zi_leN (by omega)] at h15 | rw [zi_Nle (by omega)] at h15 | rw [zi_le] at h15
        refine go_iconst (nI 1) (pc := 18) dX2_has_18 (by decide) ?_
        refine go_goto 23 (pc := 19) dX2_has_19 (by decide) ?_
        refine go_zreturn (pc := 23) dX2_has_23 rfl (by first | rfl | (apply zb_nar)) ?_
        first | exact ⟨zr_f (by omega), rfl⟩ | exact ⟨zr_t (by omega), rfl⟩

theorem c_X2_hasN {E : zE} {σ : zT} {k n m : Nat} {ρ : Nat → Nat} (hk : zL k = true) (hL : LandIs σ k n ρ) (hm : m < n) : CalM E 0 yX2_has cX2_has 2 (some .boolean) [.ref (zA E k 0), .int (nI m)] σ (fun r σ' => r = some (.int (nI 1)) ∧ σ' = σ) :=
  cal_weak (c_X2_has hk hL) (fun r σ' h => by
    have hn := hL.b
    rw [nI_toInt (by omega), zb_t (decide_eq_true (by omega))] at h
    exact h)

theorem c_X2_miles {E : zE} {σ : zT} {k n : Nat} {ρ : Nat → Nat} (hk : zL k = true) (hL : LandIs σ k n ρ) : CalM E 0 yX2_miles cX2_miles 1 (some .int) [.ref (zA E k 0)] σ (fun r σ' => r = some (.int (nI n)) ∧ σ' = σ) := by
  refine cal_of_go (own := RX2) rfl (by decide +kernel) (Nat.le_of_ble_eq_true rfl) ?_
  refine go_aload_n (i := 0) (pc := 0) dX2_miles_0 rfl rfl ?_
  refine go_geti fl_X2_18 (pc := 1) dX2_miles_1 (by first | rfl | (apply zL_fi <;> first | assumption | decide) | (apply zR_fi <;> first | assumption | decide)) ?_
  rw [hL.f2]
  refine go_ireturn (pc := 4) dX2_miles_4 rfl ?_
  exact ⟨rfl, rfl⟩

theorem c_X2_gates {E : zE} {σ : zT} {k n : Nat} {ρ : Nat → Nat} (hk : zL k = true) (hL : LandIs σ k n ρ) : CalM E 0 yX2_gates cX2_gates 1 (some .int) [.ref (zA E k 0)] σ (fun r σ' => r = some (.int (nI (ρ 24))) ∧ σ' = σ) := by
  refine cal_of_go (own := RX2) rfl (by decide +kernel) (Nat.le_of_ble_eq_true rfl) ?_
  refine go_aload_n (i := 0) (pc := 0) dX2_gates_0 rfl rfl ?_
  refine go_geti fl_X2_34 (pc := 1) dX2_gates_1 (by first | rfl | (apply zL_fi <;> first | assumption | decide) | (apply zR_fi <;> first | assumption | decide)) ?_
  rw [hL.f3]
  refine go_ireturn (pc := 4) dX2_gates_4 rfl ?_
  exact ⟨rfl, rfl⟩

theorem c_X2_allMen {E : zE} {σ : zT} {k n : Nat} {ρ : Nat → Nat} (hk : zL k = true) (hL : LandIs σ k n ρ) : CalM E 0 yX2_allMen cX2_allMen 1 (some .int) [.ref (zA E k 0)] σ (fun r σ' => r = some (.int (nI (menSum n ρ))) ∧ σ' = σ) := by
  refine cal_of_go (own := RX2) rfl (by decide +kernel) (Nat.le_of_ble_eq_true rfl) ?_
  refine go_aload_n (i := 0) (pc := 0) dX2_allMen_0 rfl rfl ?_
  refine go_geti fl_X2_37 (pc := 1) dX2_allMen_1 (by first | rfl | (apply zL_fi <;> first | assumption | decide) | (apply zR_fi <;> first | assumption | decide)) ?_
  rw [hL.f4]
  refine go_ireturn (pc := 4) dX2_allMen_4 rfl ?_
  exact ⟨rfl, rfl⟩

theorem c_X2_cheap {E : zE} {σ : zT} {k n : Nat} {ρ : Nat → Nat} (hk : zL k = true) (hL : LandIs σ k n ρ) : CalM E 0 yX2_cheap cX2_cheap 1 (some .int) [.ref (zA E k 0)] σ (fun r σ' => r = some (.int (nI (ρ 25))) ∧ σ' = σ) := by
  refine cal_of_go (own := RX2) rfl (by decide +kernel) (Nat.le_of_ble_eq_true rfl) ?_
  refine go_aload_n (i := 0) (pc := 0) dX2_cheap_0 rfl rfl ?_
  refine go_geti fl_X2_22 (pc := 1) dX2_cheap_1 (by first | rfl | (apply zL_fi <;> first | assumption | decide) | (apply zR_fi <;> first | assumption | decide)) ?_
  rw [hL.f6]
  refine go_ireturn (pc := 4) dX2_cheap_4 rfl ?_
  exact ⟨rfl, rfl⟩

theorem c_X2_dear {E : zE} {σ : zT} {k n : Nat} {ρ : Nat → Nat} (hk : zL k = true) (hL : LandIs σ k n ρ) : CalM E 0 yX2_dear cX2_dear 1 (some .int) [.ref (zA E k 0)] σ (fun r σ' => r = some (.int (nI (ρ 26))) ∧ σ' = σ) := by
  refine cal_of_go (own := RX2) rfl (by decide +kernel) (Nat.le_of_ble_eq_true rfl) ?_
  refine go_aload_n (i := 0) (pc := 0) dX2_dear_0 rfl rfl ?_
  refine go_geti fl_X2_25 (pc := 1) dX2_dear_1 (by first | rfl | (apply zL_fi <;> first | assumption | decide) | (apply zR_fi <;> first | assumption | decide)) ?_
  rw [hL.f7]
  refine go_ireturn (pc := 4) dX2_dear_4 rfl ?_
  exact ⟨rfl, rfl⟩

theorem c_X2_week {E : zE} {σ : zT} {k n : Nat} {ρ : Nat → Nat} (hk : zL k = true) (hL : LandIs σ k n ρ) : CalM E 0 yX2_week cX2_week 1 (some .int) [.ref (zA E k 0)] σ (fun r σ' => r = some (.int (nI (ρ 27))) ∧ σ' = σ) := by
  refine cal_of_go (own := RX2) rfl (by decide +kernel) (Nat.le_of_ble_eq_true rfl) ?_
  refine go_aload_n (i := 0) (pc := 0) dX2_week_0 rfl rfl ?_
  refine go_geti fl_X2_43 (pc := 1) dX2_week_1 (by first | rfl | (apply zL_fi <;> first | assumption | decide) | (apply zR_fi <;> first | assumption | decide)) ?_
  rw [hL.f8]
  refine go_ireturn (pc := 4) dX2_week_4 rfl ?_
  exact ⟨rfl, rfl⟩

theorem c_X2_over {E : zE} {σ : zT} {k n : Nat} {ρ : Nat → Nat} (hk : zL k = true) (hL : LandIs σ k n ρ) : CalM E 0 yX2_over cX2_over 1 (some .int) [.ref (zA E k 0)] σ (fun r σ' => r = some (.int (nI (ρ 28))) ∧ σ' = σ) := by
  refine cal_of_go (own := RX2) rfl (by decide +kernel) (Nat.le_of_ble_eq_true rfl) ?_
  refine go_aload_n (i := 0) (pc := 0) dX2_over_0 rfl rfl ?_
  refine go_geti fl_X2_46 (pc := 1) dX2_over_1 (by first | rfl | (apply zL_fi <;> first | assumption | decide) | (apply zR_fi <;> first | assumption | decide)) ?_
  rw [hL.f9]
  refine go_ireturn (pc := 4) dX2_over_4 rfl ?_
  exact ⟨rfl, rfl⟩

theorem c_X2_hedgeAt {E : zE} {σ : zT} {k n : Nat} {ρ : Nat → Nat} {m : Nat} (hk : zL k = true) (hL : LandIs σ k n ρ)(hm : m < n) : CalM E 1 yX2_hedgeAt cX2_hedgeAt 2 (some .int) [.ref (zA E k 0), .int (nI m)] σ (fun r σ' => r = some (.int (nI (ρ m))) ∧ σ' = σ) := by
  refine cal_of_go (own := RX2) rfl (by decide +kernel) (Nat.le_of_ble_eq_true rfl) ?_
  have hn := hL.b
  refine go_aload_n (i := 0) (pc := 0) dX2_hedgeAt_0 rfl rfl ?_
  refine go_iload_n (i := 1) (pc := 1) dX2_hedgeAt_1 rfl rfl ?_
  refine go_callV ml_X2_81 mt_X2_has (pc := 2) dX2_hedgeAt_2 (c_X2_hasN hk hL hm) (by first | rfl | (apply zL_cq <;> assumption) | (apply zR_cq <;> assumption)) rfl (by first | rfl | (apply zL_in <;> first | assumption | decide) | (apply zR_in <;> first | assumption | decide)) (by decide) (by decide) rfl rfl (Nat.le_of_ble_eq_true rfl) (fun r σ' hp => ?_)
  obtain ⟨rfl, hσ⟩ := hp
  rw [hσ]
  clear hσ σ'
  dsimp only [zRet]
  refine go_if_eq 17 (pc := 5) dX2_hedgeAt_5 (by decide) (fun h5 => ?_) (fun h5 => ?_)
  · exact absurd h5 (by decide)
  · refine go_aload_n (i := 0) (pc := 8) dX2_hedgeAt_8 rfl rfl ?_
    refine go_getr2 fl_X2_9 (pc := 9) dX2_hedgeAt_9 (by first | rfl | (apply zL_ci <;> assumption) | (apply zR_ci <;> assumption)) (by first | rfl | (apply zL_in <;> first | assumption | decide) | (apply zR_in <;> first | assumption | decide)) (by first | rfl | (apply zL_fr0 <;> assumption) | (apply zL_fr1 <;> assumption) | (apply zR_fr0 <;> assumption) | (apply zR_fr1 <;> assumption) | (apply zR_fr2 <;> assumption) | (apply zR_fr3 <;> assumption)) ?_
    refine go_iload_n (i := 1) (pc := 12) dX2_hedgeAt_12 rfl rfl ?_
    refine go_iaload _ (pc := 13) dX2_hedgeAt_13 (by first | rfl | (apply zL_ar1 <;> assumption) | (apply zL_ar2 <;> assumption) | (apply zR_ar1 <;> assumption) | (apply zR_ar2 <;> assumption) | (apply zR_ar3 <;> assumption) | (apply zR_ar4 <;> assumption)) (by first | rfl | (apply zL_jn <;> first | assumption | decide) | (apply zR_jn <;> first | assumption | decide)) rfl (by first | assumption | omega) ?_
    rw [(hL.2.2 m (by omega)).1]
    refine go_goto 18 (pc := 14) dX2_hedgeAt_14 (by decide) ?_
    refine go_ireturn (pc := 18) dX2_hedgeAt_18 rfl ?_
    exact ⟨rfl, rfl⟩

theorem c_X2_menAt {E : zE} {σ : zT} {k n : Nat} {ρ : Nat → Nat} {m : Nat} (hk : zL k = true) (hL : LandIs σ k n ρ)(hm : m < n) : CalM E 1 yX2_menAt cX2_menAt 2 (some .int) [.ref (zA E k 0), .int (nI m)] σ (fun r σ' => r = some (.int (nI (ρ (12 + m)))) ∧ σ' = σ) := by
  refine cal_of_go (own := RX2) rfl (by decide +kernel) (Nat.le_of_ble_eq_true rfl) ?_
  have hn := hL.b
  refine go_aload_n (i := 0) (pc := 0) dX2_menAt_0 rfl rfl ?_
  refine go_iload_n (i := 1) (pc := 1) dX2_menAt_1 rfl rfl ?_
  refine go_callV ml_X2_81 mt_X2_has (pc := 2) dX2_menAt_2 (c_X2_hasN hk hL hm) (by first | rfl | (apply zL_cq <;> assumption) | (apply zR_cq <;> assumption)) rfl (by first | rfl | (apply zL_in <;> first | assumption | decide) | (apply zR_in <;> first | assumption | decide)) (by decide) (by decide) rfl rfl (Nat.le_of_ble_eq_true rfl) (fun r σ' hp => ?_)
  obtain ⟨rfl, hσ⟩ := hp
  rw [hσ]
  clear hσ σ'
  dsimp only [zRet]
  refine go_if_eq 17 (pc := 5) dX2_menAt_5 (by decide) (fun h5 => ?_) (fun h5 => ?_)
  · exact absurd h5 (by decide)
  · refine go_aload_n (i := 0) (pc := 8) dX2_menAt_8 rfl rfl ?_
    refine go_getr2 fl_X2_15 (pc := 9) dX2_menAt_9 (by first | rfl | (apply zL_ci <;> assumption) | (apply zR_ci <;> assumption)) (by first | rfl | (apply zL_in <;> first | assumption | decide) | (apply zR_in <;> first | assumption | decide)) (by first | rfl | (apply zL_fr0 <;> assumption) | (apply zL_fr1 <;> assumption) | (apply zR_fr0 <;> assumption) | (apply zR_fr1 <;> assumption) | (apply zR_fr2 <;> assumption) | (apply zR_fr3 <;> assumption)) ?_
    refine go_iload_n (i := 1) (pc := 12) dX2_menAt_12 rfl rfl ?_
    refine go_iaload _ (pc := 13) dX2_menAt_13 (by first | rfl | (apply zL_ar1 <;> assumption) | (apply zL_ar2 <;> assumption) | (apply zR_ar1 <;> assumption) | (apply zR_ar2 <;> assumption) | (apply zR_ar3 <;> assumption) | (apply zR_ar4 <;> assumption)) (by first | rfl | (apply zL_jn <;> first | assumption | decide) | (apply zR_jn <;> first | assumption | decide)) rfl (by first | assumption | omega) ?_
    rw [(hL.2.2 m (by omega)).2]
    refine go_goto 18 (pc := 14) dX2_menAt_14 (by decide) ?_
    refine go_ireturn (pc := 18) dX2_menAt_18 rfl ?_
    exact ⟨rfl, rfl⟩

theorem c_X2_setHedge {E : zE} {σ : zT} {k n : Nat} {ρ : Nat → Nat} {m : Nat} {v : Int32} (hk : zL k = true) (hL : LandIs σ k n ρ)(hm : m < n) : CalM E 1 yX2_setHedge cX2_setHedge 3 none [.ref (zA E k 0), .int (nI m), .int v] σ (fun r σ' => r = none ∧ LandIs σ' k n (va_up ρ m (clp v 9)) ∧ FrG [k] σ σ') := by
  refine cal_of_go (own := RX2) rfl (by decide +kernel) (Nat.le_of_ble_eq_true rfl) ?_
  have hn := hL.b
  refine go_aload_n (i := 0) (pc := 0) dX2_setHedge_0 rfl rfl ?_
  refine go_iload_n (i := 1) (pc := 1) dX2_setHedge_1 rfl rfl ?_
  refine go_callV ml_X2_81 mt_X2_has (pc := 2) dX2_setHedge_2 (c_X2_hasN hk hL hm) (by first | rfl | (apply zL_cq <;> assumption) | (apply zR_cq <;> assumption)) rfl (by first | rfl | (apply zL_in <;> first | assumption | decide) | (apply zR_in <;> first | assumption | decide)) (by decide) (by decide) rfl rfl (Nat.le_of_ble_eq_true rfl) (fun r σ' hp => ?_)
  obtain ⟨rfl, hσ⟩ := hp
  rw [hσ]
  clear hσ σ'
  dsimp only [zRet]
  refine go_if_eq 20 (pc := 5) dX2_setHedge_5 (by decide) (fun h5 => ?_) (fun h5 => ?_)
  · exact absurd h5 (by decide)
  · refine go_aload_n (i := 0) (pc := 8) dX2_setHedge_8 rfl rfl ?_
    refine go_getr2 fl_X2_9 (pc := 9) dX2_setHedge_9 (by first | rfl | (apply zL_ci <;> assumption) | (apply zR_ci <;> assumption)) (by first | rfl | (apply zL_in <;> first | assumption | decide) | (apply zR_in <;> first | assumption | decide)) (by first | rfl | (apply zL_fr0 <;> assumption) | (apply zL_fr1 <;> assumption) | (apply zR_fr0 <;> assumption) | (apply zR_fr1 <;> assumption) | (apply zR_fr2 <;> assumption) | (apply zR_fr3 <;> assumption)) ?_
    refine go_iload_n (i := 1) (pc := 12) dX2_setHedge_12 rfl rfl ?_
    refine go_iload_n (i := 2) (pc := 13) dX2_setHedge_13 rfl rfl ?_
    refine go_bipush (nI 9) (pc := 14) dX2_setHedge_14 (by decide) ?_
    refine go_callN (fun _ h => h.1) mt_X11_within (pc := 16) dX2_setHedge_16 (c_X11_within (by decide)) (by decide) (by decide) rfl rfl (Nat.le_of_ble_eq_true rfl) (fun r σ' hp => ?_)
    obtain ⟨rfl, hσ⟩ := hp
    rw [hσ]
    clear hσ σ'
    dsimp only [zRet]
    refine go_iastore _ (pc := 19) dX2_setHedge_19 (by first | rfl | (apply zL_ar1 <;> assumption) | (apply zL_ar2 <;> assumption) | (apply zR_ar1 <;> assumption) | (apply zR_ar2 <;> assumption) | (apply zR_ar3 <;> assumption) | (apply zR_ar4 <;> assumption)) (by first | rfl | (apply zL_jn <;> first | assumption | decide) | (apply zR_jn <;> first | assumption | decide)) rfl (by first | assumption | omega) ?_
    refine go_return (pc := 20) dX2_setHedge_20 rfl ?_
    refine ⟨rfl, ⟨hL.1.lo (by omega) (clp_le v 9), fun f q1 q2 => ?_, fun i hi => ⟨?_, ?_⟩⟩, FrG.rf.uA (by simp)⟩
    · rw [uA_1, lf_lo (by omega)]; exact hL.2.1 f q1 q2
    · rw [uA_s, upd_at, va_at']
      split
      · rfl
      · exact (hL.2.2 i hi).1
    · rw [uA_2, if_neg (by simp), va_at', if_neg (by omega)]; exact (hL.2.2 i hi).2

theorem c_X2_allHedges {E : zE} {σ : zT} {k n : Nat} {ρ : Nat → Nat} (hk : zL k = true) (hL : LandIs σ k n ρ) : CalM E 2 yX2_allHedges cX2_allHedges 3 (some .int) [.ref (zA E k 0)] σ (fun r σ' => r = some (.int (nI (hedSum n ρ))) ∧ σ' = σ) := by
  refine cal_of_go (own := RX2) rfl (by decide +kernel) (Nat.le_of_ble_eq_true rfl) ?_
  have hn := hL.b
  have hs : ∀ i, i ≤ 12 → sumN i ρ ≤ 12 * 9 := fun i hi => Nat.le_trans (sumN_le (c := 9) (fun j hj => hL.1.2.2.1 j (by omega))) (Nat.mul_le_mul_right 9 hi)
  have loop : ∀ i : Nat, i ≤ n → GoM E 2 RX2 cX2_allHedges 3 (some .int) (fun r σ' => r = some (.int (nI (hedSum n ρ))) ∧ σ' = σ) σ 4 [(0, .ref (zA E k 0)), (1, .int (nI (sumN i ρ))), (2, .int (nI i))] [] := by
    intro i
    induction hj : n - i using Nat.strongRecOn generalizing i with
    | ind j ih =>
      intro hi
      refine go_iload_n (i := 2) (pc := 4) dX2_allHedges_4 rfl rfl ?_
      refine go_aload_n (i := 0) (pc := 5) dX2_allHedges_5 rfl rfl ?_
      refine go_geti fl_X2_18 (pc := 6) dX2_allHedges_6 (by first | rfl | (apply zL_fi <;> first | assumption | decide) | (apply zR_fi <;> first | assumption | decide)) ?_
      rw [hL.f2]
      refine go_icmp_ge 26 (pc := 9) dX2_allHedges_9 (by decide) (fun h9 => ?_) (fun h9 => ?_)
      · first | rw [nI_leI (by omega) (by omega)] at h9 | rw [zi_leN (by omega)] at h9 | rw [zi_Nle (by omega)] at h9 | rw [zi_le] at h9
        have e : i = n := by omega
        subst e
        refine go_iload_n (i := 1) (pc := 26) dX2_allHedges_26 rfl rfl ?_
        refine go_ireturn (pc := 27) dX2_allHedges_27 rfl ?_
        exact ⟨rfl, rfl⟩
      · first | rw [nI_leI (by omega) (by omega)] at h9 | rw [zi_leN (by omega)] at h9 | rw [zi_Nle (by omega)] at h9 | rw [zi_le] at h9
        refine go_iload_n (i := 1) (pc := 12) dX2_allHedges_12 rfl rfl ?_
        refine go_aload_n (i := 0) (pc := 13) dX2_allHedges_13 rfl rfl ?_
        refine go_iload_n (i := 2) (pc := 14) dX2_allHedges_14 rfl rfl ?_
        refine go_callV ml_X2_88 mt_X2_hedgeAt (pc := 15) dX2_allHedges_15 (c_X2_hedgeAt hk hL (by omega)) (by first | rfl | (apply zL_cq <;> assumption) | (apply zR_cq <;> assumption)) rfl (by first | rfl | (apply zL_in <;> first | assumption | decide) | (apply zR_in <;> first | assumption | decide)) (by decide) (by decide) rfl rfl (Nat.le_of_ble_eq_true rfl) (fun r σ' hp => ?_)
        obtain ⟨rfl, hσ⟩ := hp
        rw [hσ]
        clear hσ σ'
        dsimp only [zRet]
        first | with_reducible refine go_iaddN (pc := 18) dX2_allHedges_18 ?_ | refine go_iadd (pc := 18) dX2_allHedges_18 ?_
        refine go_istore_n (i := 1) (pc := 19) dX2_allHedges_19 rfl (by decide) ?_
        refine go_iincN (pc := 20) dX2_allHedges_20 rfl (by decide) ?_
        refine go_goto 4 (pc := 23) dX2_allHedges_23 (by decide) ?_
        exact ih (n - (i + 1)) (by omega) (i + 1) rfl (by omega)
  refine go_iconst (nI 0) (pc := 0) dX2_allHedges_0 (by decide) ?_
  refine go_istore_n (i := 1) (pc := 1) dX2_allHedges_1 rfl (by decide) ?_
  refine go_iconst (nI 0) (pc := 2) dX2_allHedges_2 (by decide) ?_
  refine go_istore_n (i := 2) (pc := 3) dX2_allHedges_3 rfl (by decide) ?_
  exact loop 0 (by omega)

/-- bit m of the gates -/
theorem zbit {g m : Nat} (hg : g < 2 ^ 12) (hm : m < 12) : (nI g >>> (nI m &&& 31)) &&& nI 1 = nI (if g.testBit m then 1 else 0) := by
  have h1 : ∀ m : Nat, m < 12 → ((nI m &&& 31).toBitVec.smod 32).toNat = m := by decide
  rw [pk_shrN (by omega) _ m (h1 m hm), pk_andN (Nat.lt_of_le_of_lt (Nat.div_le_self _ _) (by omega)) 1 (by decide)]
  congr 1
  rw [Nat.testBit_eq_decide_div_mod_eq]
  have := Nat.mod_two_eq_zero_or_one (g / 2 ^ m)
  rcases this with h | h <;> simp [h]
theorem zshl1 : ∀ m : Nat, m < 12 → nI 1 <<< (nI m &&& 31) = nI (2 ^ m) := by decide
theorem zxorN {a b : Nat} : nI a ^^^ nI b = nI (a ^^^ b) := by
  apply Int32.toBitVec_inj.mp
  simp only [nI, Int32.toBitVec_xor, Int32.toBitVec_ofNat', BitVec.ofNat_xor]
theorem zorN {a b : Nat} : nI a ||| nI b = nI (a ||| b) := by
  apply Int32.toBitVec_inj.mp
  simp only [nI, Int32.toBitVec_or, Int32.toBitVec_ofNat', BitVec.ofNat_or]
theorem LandIs.g {σ : zT} {k n : Nat} {ρ : Nat → Nat} (h : LandIs σ k n ρ) : ρ 24 < 2 ^ 12 := Nat.lt_of_lt_of_le h.1.2.2.2.1 (Nat.pow_le_pow_right (by decide) h.1.2.1)

theorem c_X2_hasGate {E : zE} {σ : zT} {k n : Nat} {ρ : Nat → Nat} {m : Nat} (hk : zL k = true) (hL : LandIs σ k n ρ)(hm : m < n) : CalM E 1 yX2_hasGate cX2_hasGate 2 (some .boolean) [.ref (zA E k 0), .int (nI m)] σ (fun r σ' => r = some (.int (zb ((ρ 24).testBit m))) ∧ σ' = σ) := by
  refine cal_of_go (own := RX2) rfl (by decide +kernel) (Nat.le_of_ble_eq_true rfl) ?_
  have hn := hL.b
  refine go_aload_n (i := 0) (pc := 0) dX2_hasGate_0 rfl rfl ?_
  refine go_iload_n (i := 1) (pc := 1) dX2_hasGate_1 rfl rfl ?_
  refine go_callV ml_X2_81 mt_X2_has (pc := 2) dX2_hasGate_2 (c_X2_hasN hk hL hm) (by first | rfl | (apply zL_cq <;> assumption) | (apply zR_cq <;> assumption)) rfl (by first | rfl | (apply zL_in <;> first | assumption | decide) | (apply zR_in <;> first | assumption | decide)) (by decide) (by decide) rfl rfl (Nat.le_of_ble_eq_true rfl) (fun r σ' hp => ?_)
  obtain ⟨rfl, hσ⟩ := hp
  rw [hσ]
  clear hσ σ'
  dsimp only [zRet]
  refine go_if_eq 23 (pc := 5) dX2_hasGate_5 (by decide) (fun h5 => ?_) (fun h5 => ?_)
  · exact absurd h5 (by decide)
  · refine go_aload_n (i := 0) (pc := 8) dX2_hasGate_8 rfl rfl ?_
    refine go_geti fl_X2_34 (pc := 9) dX2_hasGate_9 (by first | rfl | (apply zL_fi <;> first | assumption | decide) | (apply zR_fi <;> first | assumption | decide)) ?_
    rw [hL.f3]
    refine go_iload_n (i := 1) (pc := 12) dX2_hasGate_12 rfl rfl ?_
    refine go_ishr (pc := 13) dX2_hasGate_13 ?_
    refine go_iconst (nI 1) (pc := 14) dX2_hasGate_14 (by decide) ?_
    refine go_iand (pc := 15) dX2_hasGate_15 ?_
    rw [zbit hL.g (by omega)]
    refine go_if_eq 23 (pc := 16) dX2_hasGate_16 (by decide) (fun h16 => ?_) (fun h16 => ?_)
    · refine go_iconst (nI 0) (pc := 23) dX2_hasGate_23 (by decide) ?_
      refine go_zreturn (pc := 24) dX2_hasGate_24 rfl (by first | rfl | (apply zb_nar)) ?_
      cases hb : (ρ 24).testBit m with
      | true => first | exact ⟨rfl, rfl⟩ | (rw [hb] at h16; exact absurd h16 (by decide))
      | false => first | exact ⟨rfl, rfl⟩ | (rw [hb] at h16; exact absurd rfl h16)
    · refine go_iconst (nI 1) (pc := 19) dX2_hasGate_19 (by decide) ?_
      refine go_goto 24 (pc := 20) dX2_hasGate_20 (by decide) ?_
      refine go_zreturn (pc := 24) dX2_hasGate_24 rfl (by first | rfl | (apply zb_nar)) ?_
      cases hb : (ρ 24).testBit m with
      | true => first | exact ⟨rfl, rfl⟩ | (rw [hb] at h16; exact absurd h16 (by decide))
      | false => first | exact ⟨rfl, rfl⟩ | (rw [hb] at h16; exact absurd rfl h16)

