theorem LandIs.sc {σ : zT} {k n : Nat} {ρ : Nat → Nat} (hL : LandIs σ k n ρ) {f i v : Nat} (hfi : (f = 3 ∧ i = 24) ∨ (f = 6 ∧ i = 25) ∨ (f = 7 ∧ i = 26) ∨ (f = 8 ∧ i = 27) ∨ (f = 9 ∧ i = 28)) (hok : RowOK n (va_up ρ i v)) : LandIs (uS σ k f (nI v)) k n (va_up ρ i v) := by
  have hi : 24 ≤ i := by omega
  have h : ∀ j, j < 24 → va_up ρ i v j = ρ j := fun j hj => by rw [va_at', if_neg (by omega)]
  have e1 : menSum n (va_up ρ i v) = menSum n ρ := sumN_congr (fun j hj => h _ (by have := hok.2.1; omega))
  have e2 : menCnt n (va_up ρ i v) = menCnt n ρ := sumN_congr (fun j hj => by rw [h _ (by have := hok.2.1; omega)])
  refine ⟨hok, fun f2 q1 q2 => ?_, fun j hj => ⟨?_, ?_⟩⟩
  · have := hL.2.1 f2 q1 q2
    rcases hfi with ⟨rfl, rfl⟩ | ⟨rfl, rfl⟩ | ⟨rfl, rfl⟩ | ⟨rfl, rfl⟩ | ⟨rfl, rfl⟩ <;>
    (match f2, q1, q2 with
      | 2, _, _ => simpa [uS_1, lf, va_at'] using this
      | 3, _, _ => simpa [uS_1, lf, va_at'] using this
      | 4, _, _ => simpa [uS_1, lf, e1] using this
      | 5, _, _ => simpa [uS_1, lf, e2] using this
      | 6, _, _ => simpa [uS_1, lf, va_at'] using this
      | 7, _, _ => simpa [uS_1, lf, va_at'] using this
      | 8, _, _ => simpa [uS_1, lf, va_at'] using this
      | 9, _, _ => simpa [uS_1, lf, va_at'] using this
      | 0, q1, _ => omega
      | 1, q1, _ => omega
      | n + 10, _, q2 => omega)
  · rw [h j (by omega)]; exact (hL.2.2 j hj).1
  · rw [h (12 + j) (by omega)]; exact (hL.2.2 j hj).2
theorem RowOK.hi {n i v : Nat} {ρ : Nat → Nat} (h : RowOK n ρ) (hv : (i = 24 ∧ v < 2 ^ n) ∨ ((i = 25 ∨ i = 26) ∧ v ≤ 99) ∨ ((i = 27 ∨ i = 28) ∧ v < 2 ^ 28)) : RowOK n (va_up ρ i v) := by
  obtain ⟨h1, h2, h3, h4, h5, h6, h7, h8⟩ := h
  refine ⟨h1, h2, fun j hj => by rw [va_at', if_neg (by omega)]; exact h3 j hj, ?_, ?_, ?_, ?_, ?_⟩ <;> (rw [va_at']; split <;> omega)
theorem addsub {S w p S2 : Nat} (h : S2 + p = S + w) : nI S + (nI w - nI p) = nI S2 := by
  have e : nI S + nI w = nI S2 + nI p := by rw [nI_add, nI_add, h]
  rw [Int32.sub_eq_add_neg, ← Int32.add_assoc, e, ← Int32.sub_eq_add_neg, Int32.add_sub_cancel]
/-- a gate is made (its hedge is 0 then) or taken away -/
def gateT (ρ : Nat → Nat) (m : Nat) : Nat → Nat := va_up (if (ρ 24).testBit m then ρ else va_up ρ m 0) 24 (ρ 24 ^^^ 2 ^ m)
theorem testBit_x (g m : Nat) : (g ^^^ 2 ^ m).testBit m = !(g.testBit m) := by rw [Nat.testBit_xor, Nat.testBit_two_pow_self]; cases g.testBit m <;> rfl
theorem xor_ok {n g m : Nat} (hg : g < 2 ^ n) (hm : m < n) : g ^^^ 2 ^ m < 2 ^ n := Nat.xor_lt_two_pow hg (Nat.pow_lt_pow_right (by decide) hm)
theorem LandIs.hz {σ : zT} {k n m v : Nat} {ρ : Nat → Nat} (hL : LandIs σ k n ρ) (hm : m < 12) (hv : v ≤ 9) : LandIs (uA σ k 1 (upd (σ.2.1 k 1) m (nI v))) k n (va_up ρ m v) := by
  refine ⟨hL.1.lo hm hv, fun f q1 q2 => ?_, fun i hi => ⟨?_, ?_⟩⟩
  · rw [uA_1, lf_lo hm]; exact hL.2.1 f q1 q2
  · rw [uA_s, upd_at, va_at']
    split
    · rfl
    · exact (hL.2.2 i hi).1
  · rw [uA_2, if_neg (by simp), va_at', if_neg (by omega)]; exact (hL.2.2 i hi).2

theorem va_up_comm {ρ : Nat → Nat} {a b v w : Nat} (h : a ≠ b) : va_up (va_up ρ a v) b w = va_up (va_up ρ b w) a v := by
  funext j
  simp only [va_at']
  by_cases e : j = b
  · subst e; rw [if_pos rfl, if_neg (fun q => h q.symm), if_pos rfl]
  · rw [if_neg e, if_neg e]

theorem c_X2_turnGate {E : zE} {σ : zT} {k n : Nat} {ρ : Nat → Nat} {m : Nat} (hk : zL k = true) (hL : LandIs σ k n ρ)(hm : m < n) : CalM E 2 yX2_turnGate cX2_turnGate 2 none [.ref (zA E k 0), .int (nI m)] σ (fun r σ' => r = none ∧ LandIs σ' k n (gateT ρ m) ∧ FrG [k] σ σ') := by
  refine cal_of_go (own := RX2) rfl (by decide +kernel) (Nat.le_of_ble_eq_true rfl) ?_
  have hn := hL.b
  have h2 := hL.sc (f := 3) (i := 24) (v := ρ 24 ^^^ 2 ^ m) (Or.inl ⟨rfl, rfl⟩) (hL.1.hi (Or.inl ⟨rfl, xor_ok hL.1.2.2.2.1 hm⟩))
  refine go_aload_n (i := 0) (pc := 0) dX2_turnGate_0 rfl rfl ?_
  refine go_iload_n (i := 1) (pc := 1) dX2_turnGate_1 rfl rfl ?_
  refine go_callV ml_X2_81 mt_X2_has (pc := 2) dX2_turnGate_2 (c_X2_hasN hk hL hm) (by first | rfl | (apply zL_cq <;> assumption) | (apply zR_cq <;> assumption)) rfl (by first | rfl | (apply zL_in <;> first | assumption | decide) | (apply zR_in <;> first | assumption | decide)) (by decide) (by decide) rfl rfl (Nat.le_of_ble_eq_true rfl) (fun r σ' hp => ?_)
  obtain ⟨rfl, hσ⟩ := hp
  rw [hσ]
  clear hσ σ'
  dsimp only [zRet]
  refine go_if_ne 9 (pc := 5) dX2_turnGate_5 (by decide) (fun h5 => ?_) (fun h5 => ?_)
  · refine go_aload_n (i := 0) (pc := 9) dX2_turnGate_9 rfl rfl ?_
    refine go_dup (pc := 10) dX2_turnGate_10 rfl ?_
    refine go_geti fl_X2_34 (pc := 11) dX2_turnGate_11 (by first | rfl | (apply zL_fi <;> first | assumption | decide) | (apply zR_fi <;> first | assumption | decide)) ?_
    rw [hL.f3]
    refine go_iconst (nI 1) (pc := 14) dX2_turnGate_14 (by decide) ?_
    refine go_iload_n (i := 1) (pc := 15) dX2_turnGate_15 rfl rfl ?_
    refine go_ishl (pc := 16) dX2_turnGate_16 ?_
    rw [zshl1 m (by omega)]
    refine go_ixor (pc := 17) dX2_turnGate_17 ?_
    rw [zxorN]
    refine go_puti fp_X2_34 (pc := 18) dX2_turnGate_18 (by first | rfl | (apply zL_fi <;> first | assumption | decide) | (apply zR_fi <;> first | assumption | decide)) rfl rfl ?_
    refine go_aload_n (i := 0) (pc := 21) dX2_turnGate_21 rfl rfl ?_
    refine go_iload_n (i := 1) (pc := 22) dX2_turnGate_22 rfl rfl ?_
    refine go_callV ml_X2_91 mt_X2_hasGate (pc := 23) dX2_turnGate_23 (c_X2_hasGate hk h2 hm) (by first | rfl | (apply zL_cq <;> assumption) | (apply zR_cq <;> assumption)) rfl (by first | rfl | (apply zL_in <;> first | assumption | decide) | (apply zR_in <;> first | assumption | decide)) (by decide) (by decide) rfl rfl (Nat.le_of_ble_eq_true rfl) (fun r σ' hp => ?_)
    obtain ⟨rfl, hσ⟩ := hp
    rw [hσ]
    clear hσ σ'
    dsimp only [zRet]
    refine go_if_eq 36 (pc := 26) dX2_turnGate_26 (by decide) (fun h26 => ?_) (fun h26 => ?_)
    · refine go_return dX2_turnGate_36 rfl ?_
      refine ⟨rfl, ?_, by first | exact (FrG.rf.uS (by simp)).uA (by simp) | exact FrG.rf.uS (by simp)⟩
      unfold gateT
      rw [va_at', if_pos rfl, testBit_x] at h26
      cases hb : (ρ 24).testBit m with
      | true =>
        simp only [if_pos]
        first | exact h2 | (rw [hb] at h26; exact absurd rfl h26)
      | false =>
        rw [hb] at h26
        first | exact absurd h26 (by decide) | (have h3 := h2.hz (m := m) (v := 0) (by omega) (by omega); rw [va_up_comm (by omega)] at h3; exact h3)
    · refine go_aload_n (i := 0) (pc := 29) dX2_turnGate_29 rfl rfl ?_
      refine go_getr2 fl_X2_9 (pc := 30) dX2_turnGate_30 (by first | rfl | (apply zL_ci <;> assumption) | (apply zR_ci <;> assumption)) (by first | rfl | (apply zL_in <;> first | assumption | decide) | (apply zR_in <;> first | assumption | decide)) (by first | rfl | (apply zL_fr0 <;> assumption) | (apply zL_fr1 <;> assumption) | (apply zR_fr0 <;> assumption) | (apply zR_fr1 <;> assumption) | (apply zR_fr2 <;> assumption) | (apply zR_fr3 <;> assumption)) ?_
      refine go_iload_n (i := 1) (pc := 33) dX2_turnGate_33 rfl rfl ?_
      refine go_iconst (nI 0) (pc := 34) dX2_turnGate_34 (by decide) ?_
      refine go_iastore _ (pc := 35) dX2_turnGate_35 (by first | rfl | (apply zL_ar1 <;> assumption) | (apply zL_ar2 <;> assumption) | (apply zR_ar1 <;> assumption) | (apply zR_ar2 <;> assumption) | (apply zR_ar3 <;> assumption) | (apply zR_ar4 <;> assumption)) (by first | rfl | (apply zL_jn <;> first | assumption | decide) | (apply zR_jn <;> first | assumption | decide)) rfl (by first | assumption | omega) ?_
      refine go_return dX2_turnGate_36 rfl ?_
      refine ⟨rfl, ?_, by first | exact (FrG.rf.uS (by simp)).uA (by simp) | exact FrG.rf.uS (by simp)⟩
      unfold gateT
      rw [va_at', if_pos rfl, testBit_x] at h26
      cases hb : (ρ 24).testBit m with
      | true =>
        simp only [if_pos]
        first | exact h2 | (rw [hb] at h26; exact absurd rfl h26)
      | false =>
        rw [hb] at h26
        first | exact absurd h26 (by decide) | (have h3 := h2.hz (m := m) (v := 0) (by omega) (by omega); rw [va_up_comm (by omega)] at h3; exact h3)
  · exact absurd h5 (by decide)

theorem LandIs.mz {σ : zT} {k n m v : Nat} {ρ : Nat → Nat} (hL : LandIs σ k n ρ) (hm : m < n) (hv : v ≤ 9) : LandIs (uS (uS (uA σ k 2 (upd (σ.2.1 k 2) m (nI v))) k 4 (nI (menSum n (va_up ρ (12 + m) v)))) k 5 (nI (menCnt n (va_up ρ (12 + m) v)))) k n (va_up ρ (12 + m) v) := by
  have hn := hL.b
  have h : ∀ j, (j < 12 ∨ 24 ≤ j) → va_up ρ (12 + m) v j = ρ j := fun j hj => by rw [va_at', if_neg (by omega)]
  obtain ⟨h1, h2, h3, h4, h5, h6, h7, h8⟩ := hL.1
  refine ⟨⟨h1, h2, fun i hi => ?_, by rw [h _ (by omega)]; exact h4, by rw [h _ (by omega)]; exact h5, by rw [h _ (by omega)]; exact h6, by rw [h _ (by omega)]; exact h7, by rw [h _ (by omega)]; exact h8⟩, fun f q1 q2 => ?_, fun i hi => ⟨?_, ?_⟩⟩
  · rw [va_at']
    split
    · exact hv
    · exact h3 i hi
  · have := hL.2.1 f q1 q2
    match f, q1, q2 with
      | 2, _, _ => simpa [uS_1, uA_1, lf] using this
      | 3, _, _ => simpa [uS_1, uA_1, lf, h 24 (by omega)] using this
      | 4, _, _ => simp [uS_1, lf]
      | 5, _, _ => simp [uS_1, lf]
      | 6, _, _ => simpa [uS_1, uA_1, lf, h 25 (by omega)] using this
      | 7, _, _ => simpa [uS_1, uA_1, lf, h 26 (by omega)] using this
      | 8, _, _ => simpa [uS_1, uA_1, lf, h 27 (by omega)] using this
      | 9, _, _ => simpa [uS_1, uA_1, lf, h 28 (by omega)] using this
      | 0, q1, _ => omega
      | 1, q1, _ => omega
      | n + 10, _, q2 => omega
  · rw [h i (by omega)]; simpa [uS_2, uA_2] using (hL.2.2 i hi).1
  · rw [uS_2, uS_2, uA_s, upd_at, va_at']
    by_cases e : i = m
    · rw [if_pos e, if_pos (by omega)]
    · rw [if_neg e, if_neg (by omega)]; exact (hL.2.2 i hi).2

theorem c_X2_setMen {E : zE} {σ : zT} {k n : Nat} {ρ : Nat → Nat} {m : Nat} {v : Int32} (hk : zL k = true) (hL : LandIs σ k n ρ)(hm : m < n) : CalM E 1 yX2_setMen cX2_setMen 5 none [.ref (zA E k 0), .int (nI m), .int v] σ (fun r σ' => r = none ∧ LandIs σ' k n (va_up ρ (12 + m) (clp v 9)) ∧ FrG [k] σ σ') := by
  refine cal_of_go (own := RX2) rfl (by decide +kernel) (Nat.le_of_ble_eq_true rfl) ?_
  have hn := hL.b
  have hv9 := clp_le v 9
  have ho9 := hL.1.2.2.1 (12 + m) (by omega)
  refine go_aload_n (i := 0) (pc := 0) dX2_setMen_0 rfl rfl ?_
  refine go_iload_n (i := 1) (pc := 1) dX2_setMen_1 rfl rfl ?_
  refine go_callV ml_X2_81 mt_X2_has (pc := 2) dX2_setMen_2 (c_X2_hasN hk hL hm) (by first | rfl | (apply zL_cq <;> assumption) | (apply zR_cq <;> assumption)) rfl (by first | rfl | (apply zL_in <;> first | assumption | decide) | (apply zR_in <;> first | assumption | decide)) (by decide) (by decide) rfl rfl (Nat.le_of_ble_eq_true rfl) (fun r σ' hp => ?_)
  obtain ⟨rfl, hσ⟩ := hp
  rw [hσ]
  clear hσ σ'
  dsimp only [zRet]
  refine go_if_ne 9 dX2_setMen_5 (by decide) (fun h5 => ?_) (fun h5 => absurd h5 (by decide))
  refine go_aload_n (i := 0) (pc := 9) dX2_setMen_9 rfl rfl ?_
  refine go_getr2 fl_X2_15 (pc := 10) dX2_setMen_10 (by first | rfl | (apply zL_ci <;> assumption) | (apply zR_ci <;> assumption)) (by first | rfl | (apply zL_in <;> first | assumption | decide) | (apply zR_in <;> first | assumption | decide)) (by first | rfl | (apply zL_fr0 <;> assumption) | (apply zL_fr1 <;> assumption) | (apply zR_fr0 <;> assumption) | (apply zR_fr1 <;> assumption) | (apply zR_fr2 <;> assumption) | (apply zR_fr3 <;> assumption)) ?_
  refine go_iload_n (i := 1) (pc := 13) dX2_setMen_13 rfl rfl ?_
  refine go_iaload _ (pc := 14) dX2_setMen_14 (by first | rfl | (apply zL_ar1 <;> assumption) | (apply zL_ar2 <;> assumption) | (apply zR_ar1 <;> assumption) | (apply zR_ar2 <;> assumption) | (apply zR_ar3 <;> assumption) | (apply zR_ar4 <;> assumption)) (by first | rfl | (apply zL_jn <;> first | assumption | decide) | (apply zR_jn <;> first | assumption | decide)) rfl (by first | assumption | omega) ?_
  rw [(hL.2.2 m (by omega)).2]
  refine go_istore_n (i := 3) (pc := 15) dX2_setMen_15 rfl (by decide) ?_
  refine go_iload_n (i := 2) (pc := 16) dX2_setMen_16 rfl rfl ?_
  refine go_bipush (nI 9) (pc := 17) dX2_setMen_17 (by decide) ?_
  refine go_callN (fun _ h => h.1) mt_X11_within (pc := 19) dX2_setMen_19 (c_X11_within (by decide)) (by decide) (by decide) rfl rfl (Nat.le_of_ble_eq_true rfl) (fun r σ' hp => ?_)
  obtain ⟨rfl, hσ⟩ := hp
  rw [hσ]
  clear hσ σ'
  dsimp only [zRet]
  refine go_istore (pc := 22) dX2_setMen_22 (by decide) ?_
  refine go_aload_n (i := 0) (pc := 24) dX2_setMen_24 rfl rfl ?_
  refine go_getr2 fl_X2_15 (pc := 25) dX2_setMen_25 (by first | rfl | (apply zL_ci <;> assumption) | (apply zR_ci <;> assumption)) (by first | rfl | (apply zL_in <;> first | assumption | decide) | (apply zR_in <;> first | assumption | decide)) (by first | rfl | (apply zL_fr0 <;> assumption) | (apply zL_fr1 <;> assumption) | (apply zR_fr0 <;> assumption) | (apply zR_fr1 <;> assumption) | (apply zR_fr2 <;> assumption) | (apply zR_fr3 <;> assumption)) ?_
  refine go_iload_n (i := 1) (pc := 28) dX2_setMen_28 rfl rfl ?_
  refine go_iload (pc := 29) dX2_setMen_29 rfl ?_
  refine go_iastore _ (pc := 31) dX2_setMen_31 (by first | rfl | (apply zL_ar1 <;> assumption) | (apply zL_ar2 <;> assumption) | (apply zR_ar1 <;> assumption) | (apply zR_ar2 <;> assumption) | (apply zR_ar3 <;> assumption) | (apply zR_ar4 <;> assumption)) (by first | rfl | (apply zL_jn <;> first | assumption | decide) | (apply zR_jn <;> first | assumption | decide)) rfl (by first | assumption | omega) ?_
  refine go_aload_n (i := 0) (pc := 32) dX2_setMen_32 rfl rfl ?_
  refine go_dup (pc := 33) dX2_setMen_33 rfl ?_
  refine go_geti fl_X2_37 (pc := 34) dX2_setMen_34 (by first | rfl | (apply zL_fi <;> first | assumption | decide) | (apply zR_fi <;> first | assumption | decide)) ?_
  rw [uA_1, hL.f4]
  refine go_iload (pc := 37) dX2_setMen_37 rfl ?_
  refine go_iload_n (i := 3) (pc := 39) dX2_setMen_39 rfl rfl ?_
  first | with_reducible refine go_isubN (pc := 40) dX2_setMen_40 (by omega) ?_ | refine go_isub (pc := 40) dX2_setMen_40 ?_
  first | with_reducible refine go_iaddN (pc := 41) dX2_setMen_41 ?_ | refine go_iadd (pc := 41) dX2_setMen_41 ?_
  rw [addsub (menSum_up (v := clp v 9) (ρ := ρ) hm)]
  refine go_puti fp_X2_37 (pc := 42) dX2_setMen_42 (by first | rfl | (apply zL_fi <;> first | assumption | decide) | (apply zR_fi <;> first | assumption | decide)) rfl rfl ?_
  refine go_aload_n (i := 0) (pc := 45) dX2_setMen_45 rfl rfl ?_
  refine go_dup (pc := 46) dX2_setMen_46 rfl ?_
  refine go_geti fl_X2_40 (pc := 47) dX2_setMen_47 (by first | rfl | (apply zL_fi <;> first | assumption | decide) | (apply zR_fi <;> first | assumption | decide)) ?_
  rw [uS_1, if_neg (by simp), uA_1, hL.f5]
  refine go_iload (pc := 50) dX2_setMen_50 rfl ?_
  refine go_if_le 59 (pc := 52) dX2_setMen_52 (by decide) (fun h52 => ?_) (fun h52 => ?_)
  · first | rw [zb_0d] at h52 | rw [zn_le0 (by omega)] at h52 | rw [zi_le0] at h52
    refine go_iconst (nI 0) (pc := 59) dX2_setMen_59 (by decide) ?_
    refine go_iload_n (i := 3) (pc := 60) dX2_setMen_60 rfl rfl ?_
    refine go_if_le 68 (pc := 61) dX2_setMen_61 (by decide) (fun h61 => ?_) (fun h61 => ?_)
    · first | rw [zb_0d] at h61 | rw [zn_le0 (by omega)] at h61 | rw [zi_le0] at h61
      refine go_iconst (nI 0) (pc := 68) dX2_setMen_68 (by decide) ?_
      refine go_isub dX2_setMen_69 ?_
      refine go_iadd dX2_setMen_70 ?_
      have hc := menCnt_up (v := clp v 9) (ρ := ρ) hm
      rw [addsub (S2 := menCnt n (va_up ρ (12 + m) (clp v 9))) (by split at hc <;> split at hc <;> omega)]
      refine go_puti fp_X2_40 (pc := 71) dX2_setMen_71 (by first | rfl | (apply zL_fi <;> first | assumption | decide) | (apply zR_fi <;> first | assumption | decide)) rfl rfl ?_
      refine go_return (pc := 74) dX2_setMen_74 rfl ?_
      exact ⟨rfl, hL.mz hm hv9, ((FrG.rf.uA (by simp)).uS (by simp)).uS (by simp)⟩
    · first | rw [zb_0d] at h61 | rw [zn_le0 (by omega)] at h61 | rw [zi_le0] at h61
      refine go_iconst (nI 1) (pc := 64) dX2_setMen_64 (by decide) ?_
      refine go_goto 69 (pc := 65) dX2_setMen_65 (by decide) ?_
      refine go_isub dX2_setMen_69 ?_
      refine go_iadd dX2_setMen_70 ?_
      have hc := menCnt_up (v := clp v 9) (ρ := ρ) hm
      rw [addsub (S2 := menCnt n (va_up ρ (12 + m) (clp v 9))) (by split at hc <;> split at hc <;> omega)]
      refine go_puti fp_X2_40 (pc := 71) dX2_setMen_71 (by first | rfl | (apply zL_fi <;> first | assumption | decide) | (apply zR_fi <;> first | assumption | decide)) rfl rfl ?_
      refine go_return (pc := 74) dX2_setMen_74 rfl ?_
      exact ⟨rfl, hL.mz hm hv9, ((FrG.rf.uA (by simp)).uS (by simp)).uS (by simp)⟩
  · first | rw [zb_0d] at h52 | rw [zn_le0 (by omega)] at h52 | rw [zi_le0] at h52
    refine go_iconst (nI 1) (pc := 55) dX2_setMen_55 (by decide) ?_
    refine go_goto 60 (pc := 56) dX2_setMen_56 (by decide) ?_
    refine go_iload_n (i := 3) (pc := 60) dX2_setMen_60 rfl rfl ?_
    refine go_if_le 68 (pc := 61) dX2_setMen_61 (by decide) (fun h61 => ?_) (fun h61 => ?_)
    · first | rw [zb_0d] at h61 | rw [zn_le0 (by omega)] at h61 | rw [zi_le0] at h61
      refine go_iconst (nI 0) (pc := 68) dX2_setMen_68 (by decide) ?_
      refine go_isub dX2_setMen_69 ?_
      refine go_iadd dX2_setMen_70 ?_
      have hc := menCnt_up (v := clp v 9) (ρ := ρ) hm
      rw [addsub (S2 := menCnt n (va_up ρ (12 + m) (clp v 9))) (by split at hc <;> split at hc <;> omega)]
      refine go_puti fp_X2_40 (pc := 71) dX2_setMen_71 (by first | rfl | (apply zL_fi <;> first | assumption | decide) | (apply zR_fi <;> first | assumption | decide)) rfl rfl ?_
      refine go_return (pc := 74) dX2_setMen_74 rfl ?_
      exact ⟨rfl, hL.mz hm hv9, ((FrG.rf.uA (by simp)).uS (by simp)).uS (by simp)⟩
    · first | rw [zb_0d] at h61 | rw [zn_le0 (by omega)] at h61 | rw [zi_le0] at h61
      refine go_iconst (nI 1) (pc := 64) dX2_setMen_64 (by decide) ?_
      refine go_goto 69 (pc := 65) dX2_setMen_65 (by decide) ?_
      refine go_isub dX2_setMen_69 ?_
      refine go_iadd dX2_setMen_70 ?_
      have hc := menCnt_up (v := clp v 9) (ρ := ρ) hm
      rw [addsub (S2 := menCnt n (va_up ρ (12 + m) (clp v 9))) (by split at hc <;> split at hc <;> omega)]
      refine go_puti fp_X2_40 (pc := 71) dX2_setMen_71 (by first | rfl | (apply zL_fi <;> first | assumption | decide) | (apply zR_fi <;> first | assumption | decide)) rfl rfl ?_
      refine go_return (pc := 74) dX2_setMen_74 rfl ?_
      exact ⟨rfl, hL.mz hm hv9, ((FrG.rf.uA (by simp)).uS (by simp)).uS (by simp)⟩

theorem c_X2_mannedBeside {E : zE} {σ : zT} {k n : Nat} {ρ : Nat → Nat} {m : Nat} (hk : zL k = true) (hL : LandIs σ k n ρ)(hm : m < n) : CalM E 1 yX2_mannedBeside cX2_mannedBeside 2 (some .int) [.ref (zA E k 0), .int (nI m)] σ (fun r σ' => r = some (.int (nI (menOth n ρ m))) ∧ σ' = σ) := by
  refine cal_of_go (own := RX2) rfl (by decide +kernel) (Nat.le_of_ble_eq_true rfl) ?_
  have hn := hL.b
  have ho := menOth_eq (ρ := ρ) hm
  have ho9 := hL.1.2.2.1 (12 + m) (by omega)
  refine go_aload_n (i := 0) (pc := 0) dX2_mannedBeside_0 rfl rfl ?_
  refine go_iload_n (i := 1) (pc := 1) dX2_mannedBeside_1 rfl rfl ?_
  refine go_callV ml_X2_81 mt_X2_has (pc := 2) dX2_mannedBeside_2 (c_X2_hasN hk hL hm) (by first | rfl | (apply zL_cq <;> assumption) | (apply zR_cq <;> assumption)) rfl (by first | rfl | (apply zL_in <;> first | assumption | decide) | (apply zR_in <;> first | assumption | decide)) (by decide) (by decide) rfl rfl (Nat.le_of_ble_eq_true rfl) (fun r σ' hp => ?_)
  obtain ⟨rfl, hσ⟩ := hp
  rw [hσ]
  clear hσ σ'
  dsimp only [zRet]
  refine go_if_eq 26 dX2_mannedBeside_5 (by decide) (fun h5 => absurd h5 (by decide)) (fun h5 => ?_)
  refine go_aload_n (i := 0) (pc := 8) dX2_mannedBeside_8 rfl rfl ?_
  refine go_getr2 fl_X2_15 (pc := 9) dX2_mannedBeside_9 (by first | rfl | (apply zL_ci <;> assumption) | (apply zR_ci <;> assumption)) (by first | rfl | (apply zL_in <;> first | assumption | decide) | (apply zR_in <;> first | assumption | decide)) (by first | rfl | (apply zL_fr0 <;> assumption) | (apply zL_fr1 <;> assumption) | (apply zR_fr0 <;> assumption) | (apply zR_fr1 <;> assumption) | (apply zR_fr2 <;> assumption) | (apply zR_fr3 <;> assumption)) ?_
  refine go_iload_n (i := 1) (pc := 12) dX2_mannedBeside_12 rfl rfl ?_
  refine go_iaload _ (pc := 13) dX2_mannedBeside_13 (by first | rfl | (apply zL_ar1 <;> assumption) | (apply zL_ar2 <;> assumption) | (apply zR_ar1 <;> assumption) | (apply zR_ar2 <;> assumption) | (apply zR_ar3 <;> assumption) | (apply zR_ar4 <;> assumption)) (by first | rfl | (apply zL_jn <;> first | assumption | decide) | (apply zR_jn <;> first | assumption | decide)) rfl (by first | assumption | omega) ?_
  rw [(hL.2.2 m (by omega)).2]
  refine go_if_le 26 (pc := 14) dX2_mannedBeside_14 (by decide) (fun h14 => ?_) (fun h14 => ?_)
  · first | rw [zb_0d] at h14 | rw [zn_le0 (by omega)] at h14 | rw [zi_le0] at h14
    refine go_aload_n (i := 0) (pc := 26) dX2_mannedBeside_26 rfl rfl ?_
    refine go_geti fl_X2_40 (pc := 27) dX2_mannedBeside_27 (by first | rfl | (apply zL_fi <;> first | assumption | decide) | (apply zR_fi <;> first | assumption | decide)) ?_
    rw [hL.f5]
    refine go_ireturn (pc := 30) dX2_mannedBeside_30 rfl ?_
    refine ⟨?_, rfl⟩
    congr 3
    split at ho <;> omega
  · first | rw [zb_0d] at h14 | rw [zn_le0 (by omega)] at h14 | rw [zi_le0] at h14
    refine go_aload_n (i := 0) (pc := 17) dX2_mannedBeside_17 rfl rfl ?_
    refine go_geti fl_X2_40 (pc := 18) dX2_mannedBeside_18 (by first | rfl | (apply zL_fi <;> first | assumption | decide) | (apply zR_fi <;> first | assumption | decide)) ?_
    rw [hL.f5]
    refine go_iconst (nI 1) dX2_mannedBeside_21 (by decide) ?_
    have h1 : 1 ≤ menCnt n ρ := by split at ho <;> omega
    first | with_reducible refine go_isubN (pc := 22) dX2_mannedBeside_22 (by omega) ?_ | refine go_isub (pc := 22) dX2_mannedBeside_22 ?_
    refine go_goto 30 (pc := 23) dX2_mannedBeside_23 (by decide) ?_
    refine go_ireturn (pc := 30) dX2_mannedBeside_30 rfl ?_
    refine ⟨?_, rfl⟩
    congr 3
    split at ho <;> omega

theorem c_X2_setCheap {E : zE} {σ : zT} {k n : Nat} {ρ : Nat → Nat} {v : Nat} (hk : zL k = true) (hL : LandIs σ k n ρ)(hv : v ≤ 99) : CalM E 0 yX2_setCheap cX2_setCheap 2 none [.ref (zA E k 0), .int (nI v)] σ (fun r σ' => r = none ∧ LandIs σ' k n (va_up ρ 25 v) ∧ FrG [k] σ σ') := by
  refine cal_of_go (own := RX2) rfl (by decide +kernel) (Nat.le_of_ble_eq_true rfl) ?_
  refine go_aload_n (i := 0) (pc := 0) dX2_setCheap_0 rfl rfl ?_
  refine go_iload_n (i := 1) (pc := 1) dX2_setCheap_1 rfl rfl ?_
  refine go_puti fp_X2_22 (pc := 2) dX2_setCheap_2 (by first | rfl | (apply zL_fi <;> first | assumption | decide) | (apply zR_fi <;> first | assumption | decide)) rfl rfl ?_
  refine go_return (pc := 5) dX2_setCheap_5 rfl ?_
  exact ⟨rfl, hL.sc (by omega) (hL.1.hi (by omega)), FrG.rf.uS (by simp)⟩

theorem c_X2_setDear {E : zE} {σ : zT} {k n : Nat} {ρ : Nat → Nat} {v : Nat} (hk : zL k = true) (hL : LandIs σ k n ρ)(hv : v ≤ 99) : CalM E 0 yX2_setDear cX2_setDear 2 none [.ref (zA E k 0), .int (nI v)] σ (fun r σ' => r = none ∧ LandIs σ' k n (va_up ρ 26 v) ∧ FrG [k] σ σ') := by
  refine cal_of_go (own := RX2) rfl (by decide +kernel) (Nat.le_of_ble_eq_true rfl) ?_
  refine go_aload_n (i := 0) (pc := 0) dX2_setDear_0 rfl rfl ?_
  refine go_iload_n (i := 1) (pc := 1) dX2_setDear_1 rfl rfl ?_
  refine go_puti fp_X2_25 (pc := 2) dX2_setDear_2 (by first | rfl | (apply zL_fi <;> first | assumption | decide) | (apply zR_fi <;> first | assumption | decide)) rfl rfl ?_
  refine go_return (pc := 5) dX2_setDear_5 rfl ?_
  exact ⟨rfl, hL.sc (by omega) (hL.1.hi (by omega)), FrG.rf.uS (by simp)⟩

theorem c_X2_comeOver {E : zE} {σ : zT} {k n : Nat} {ρ : Nat → Nat} {v : Nat} (hk : zL k = true) (hL : LandIs σ k n ρ)(hv : ρ 28 + v < 2 ^ 28) : CalM E 0 yX2_comeOver cX2_comeOver 2 none [.ref (zA E k 0), .int (nI v)] σ (fun r σ' => r = none ∧ LandIs σ' k n (va_up ρ 28 (ρ 28 + v)) ∧ FrG [k] σ σ') := by
  refine cal_of_go (own := RX2) rfl (by decide +kernel) (Nat.le_of_ble_eq_true rfl) ?_
  refine go_aload_n (i := 0) (pc := 0) dX2_comeOver_0 rfl rfl ?_
  refine go_dup (pc := 1) dX2_comeOver_1 rfl ?_
  refine go_geti fl_X2_46 (pc := 2) dX2_comeOver_2 (by first | rfl | (apply zL_fi <;> first | assumption | decide) | (apply zR_fi <;> first | assumption | decide)) ?_
  rw [hL.f9]
  refine go_iload_n (i := 1) (pc := 5) dX2_comeOver_5 rfl rfl ?_
  first | with_reducible refine go_iaddN (pc := 6) dX2_comeOver_6 ?_ | refine go_iadd (pc := 6) dX2_comeOver_6 ?_
  refine go_puti fp_X2_46 (pc := 7) dX2_comeOver_7 (by first | rfl | (apply zL_fi <;> first | assumption | decide) | (apply zR_fi <;> first | assumption | decide)) rfl rfl ?_
  refine go_return (pc := 10) dX2_comeOver_10 rfl ?_
  exact ⟨rfl, hL.sc (by omega) (hL.1.hi (by omega)), FrG.rf.uS (by simp)⟩

theorem c_X2_copyFrom {E : zE} {σ : zT} {k k2 n : Nat} {ρ : Nat → Nat} (hk : zL k = true) (hk2 : zL k2 = true) (hL : LandIs σ k2 n ρ) : CalM E 1 yX2_copyFrom cX2_copyFrom 2 none [.ref (zA E k 0), .ref (zA E k2 0)] σ (fun r σ' => r = none ∧ LandIs σ' k n ρ ∧ FrG [k] σ σ') := by
  refine cal_of_go (own := RX2) rfl (by decide +kernel) (Nat.le_of_ble_eq_true rfl) ?_
  refine go_aload_n (i := 1) (pc := 0) dX2_copyFrom_0 rfl rfl ?_
  refine go_getr2 fl_X2_9 (pc := 1) dX2_copyFrom_1 (by first | rfl | (apply zL_ci <;> assumption) | (apply zR_ci <;> assumption)) (by first | rfl | (apply zL_in <;> first | assumption | decide) | (apply zR_in <;> first | assumption | decide)) (by first | rfl | (apply zL_fr0 <;> assumption) | (apply zL_fr1 <;> assumption) | (apply zR_fr0 <;> assumption) | (apply zR_fr1 <;> assumption) | (apply zR_fr2 <;> assumption) | (apply zR_fr3 <;> assumption)) ?_
  refine go_iconst (nI 0) (pc := 4) dX2_copyFrom_4 (by decide) ?_
  refine go_aload_n (i := 0) (pc := 5) dX2_copyFrom_5 rfl rfl ?_
  refine go_getr2 fl_X2_9 (pc := 6) dX2_copyFrom_6 (by first | rfl | (apply zL_ci <;> assumption) | (apply zR_ci <;> assumption)) (by first | rfl | (apply zL_in <;> first | assumption | decide) | (apply zR_in <;> first | assumption | decide)) (by first | rfl | (apply zL_fr0 <;> assumption) | (apply zL_fr1 <;> assumption) | (apply zR_fr0 <;> assumption) | (apply zR_fr1 <;> assumption) | (apply zR_fr2 <;> assumption) | (apply zR_fr3 <;> assumption)) ?_
  refine go_iconst (nI 0) (pc := 9) dX2_copyFrom_9 (by decide) ?_
  refine go_bipush (nI 12) (pc := 10) dX2_copyFrom_10 (by decide) ?_
  refine go_copy 0 0 12 ml_X2_28 dX2_copyFrom_12 (zL_ar1 hk2) (zL_jn hk2 (by decide) rfl) (zL_ar1 hk) (zL_jn hk (by decide) rfl) rfl rfl rfl (by decide) (by decide) (by decide) (Nat.le_of_ble_eq_true rfl) ?_
  refine go_aload_n (i := 1) (pc := 15) dX2_copyFrom_15 rfl rfl ?_
  refine go_getr2 fl_X2_15 (pc := 16) dX2_copyFrom_16 (by first | rfl | (apply zL_ci <;> assumption) | (apply zR_ci <;> assumption)) (by first | rfl | (apply zL_in <;> first | assumption | decide) | (apply zR_in <;> first | assumption | decide)) (by first | rfl | (apply zL_fr0 <;> assumption) | (apply zL_fr1 <;> assumption) | (apply zR_fr0 <;> assumption) | (apply zR_fr1 <;> assumption) | (apply zR_fr2 <;> assumption) | (apply zR_fr3 <;> assumption)) ?_
  refine go_iconst (nI 0) (pc := 19) dX2_copyFrom_19 (by decide) ?_
  refine go_aload_n (i := 0) (pc := 20) dX2_copyFrom_20 rfl rfl ?_
  refine go_getr2 fl_X2_15 (pc := 21) dX2_copyFrom_21 (by first | rfl | (apply zL_ci <;> assumption) | (apply zR_ci <;> assumption)) (by first | rfl | (apply zL_in <;> first | assumption | decide) | (apply zR_in <;> first | assumption | decide)) (by first | rfl | (apply zL_fr0 <;> assumption) | (apply zL_fr1 <;> assumption) | (apply zR_fr0 <;> assumption) | (apply zR_fr1 <;> assumption) | (apply zR_fr2 <;> assumption) | (apply zR_fr3 <;> assumption)) ?_
  refine go_iconst (nI 0) (pc := 24) dX2_copyFrom_24 (by decide) ?_
  refine go_bipush (nI 12) (pc := 25) dX2_copyFrom_25 (by decide) ?_
  refine go_copy 0 0 12 ml_X2_28 dX2_copyFrom_27 (zL_ar2 hk2) (zL_jn hk2 (by decide) rfl) (zL_ar2 hk) (zL_jn hk (by decide) rfl) rfl rfl rfl (by decide) (by decide) (by decide) (Nat.le_of_ble_eq_true rfl) ?_
  refine go_aload_n (i := 0) (pc := 30) dX2_copyFrom_30 rfl rfl ?_
  refine go_aload_n (i := 1) (pc := 31) dX2_copyFrom_31 rfl rfl ?_
  refine go_geti fl_X2_18 (pc := 32) dX2_copyFrom_32 (by first | rfl | (apply zL_fi <;> first | assumption | decide) | (apply zR_fi <;> first | assumption | decide)) ?_
  refine go_puti fp_X2_18 (pc := 35) dX2_copyFrom_35 (by first | rfl | (apply zL_fi <;> first | assumption | decide) | (apply zR_fi <;> first | assumption | decide)) rfl rfl ?_
  refine go_aload_n (i := 0) (pc := 38) dX2_copyFrom_38 rfl rfl ?_
  refine go_aload_n (i := 1) (pc := 39) dX2_copyFrom_39 rfl rfl ?_
  refine go_geti fl_X2_34 (pc := 40) dX2_copyFrom_40 (by first | rfl | (apply zL_fi <;> first | assumption | decide) | (apply zR_fi <;> first | assumption | decide)) ?_
  refine go_puti fp_X2_34 (pc := 43) dX2_copyFrom_43 (by first | rfl | (apply zL_fi <;> first | assumption | decide) | (apply zR_fi <;> first | assumption | decide)) rfl rfl ?_
  refine go_aload_n (i := 0) (pc := 46) dX2_copyFrom_46 rfl rfl ?_
  refine go_aload_n (i := 1) (pc := 47) dX2_copyFrom_47 rfl rfl ?_
  refine go_geti fl_X2_37 (pc := 48) dX2_copyFrom_48 (by first | rfl | (apply zL_fi <;> first | assumption | decide) | (apply zR_fi <;> first | assumption | decide)) ?_
  refine go_puti fp_X2_37 (pc := 51) dX2_copyFrom_51 (by first | rfl | (apply zL_fi <;> first | assumption | decide) | (apply zR_fi <;> first | assumption | decide)) rfl rfl ?_
  refine go_aload_n (i := 0) (pc := 54) dX2_copyFrom_54 rfl rfl ?_
  refine go_aload_n (i := 1) (pc := 55) dX2_copyFrom_55 rfl rfl ?_
  refine go_geti fl_X2_40 (pc := 56) dX2_copyFrom_56 (by first | rfl | (apply zL_fi <;> first | assumption | decide) | (apply zR_fi <;> first | assumption | decide)) ?_
  refine go_puti fp_X2_40 (pc := 59) dX2_copyFrom_59 (by first | rfl | (apply zL_fi <;> first | assumption | decide) | (apply zR_fi <;> first | assumption | decide)) rfl rfl ?_
  refine go_aload_n (i := 0) (pc := 62) dX2_copyFrom_62 rfl rfl ?_
  refine go_aload_n (i := 1) (pc := 63) dX2_copyFrom_63 rfl rfl ?_
  refine go_geti fl_X2_22 (pc := 64) dX2_copyFrom_64 (by first | rfl | (apply zL_fi <;> first | assumption | decide) | (apply zR_fi <;> first | assumption | decide)) ?_
  refine go_puti fp_X2_22 (pc := 67) dX2_copyFrom_67 (by first | rfl | (apply zL_fi <;> first | assumption | decide) | (apply zR_fi <;> first | assumption | decide)) rfl rfl ?_
  refine go_aload_n (i := 0) (pc := 70) dX2_copyFrom_70 rfl rfl ?_
  refine go_aload_n (i := 1) (pc := 71) dX2_copyFrom_71 rfl rfl ?_
  refine go_geti fl_X2_25 (pc := 72) dX2_copyFrom_72 (by first | rfl | (apply zL_fi <;> first | assumption | decide) | (apply zR_fi <;> first | assumption | decide)) ?_
  refine go_puti fp_X2_25 (pc := 75) dX2_copyFrom_75 (by first | rfl | (apply zL_fi <;> first | assumption | decide) | (apply zR_fi <;> first | assumption | decide)) rfl rfl ?_
  refine go_aload_n (i := 0) (pc := 78) dX2_copyFrom_78 rfl rfl ?_
  refine go_aload_n (i := 1) (pc := 79) dX2_copyFrom_79 rfl rfl ?_
  refine go_geti fl_X2_43 (pc := 80) dX2_copyFrom_80 (by first | rfl | (apply zL_fi <;> first | assumption | decide) | (apply zR_fi <;> first | assumption | decide)) ?_
  refine go_puti fp_X2_43 (pc := 83) dX2_copyFrom_83 (by first | rfl | (apply zL_fi <;> first | assumption | decide) | (apply zR_fi <;> first | assumption | decide)) rfl rfl ?_
  refine go_aload_n (i := 0) (pc := 86) dX2_copyFrom_86 rfl rfl ?_
  refine go_aload_n (i := 1) (pc := 87) dX2_copyFrom_87 rfl rfl ?_
  refine go_geti fl_X2_46 (pc := 88) dX2_copyFrom_88 (by first | rfl | (apply zL_fi <;> first | assumption | decide) | (apply zR_fi <;> first | assumption | decide)) ?_
  refine go_puti fp_X2_46 (pc := 91) dX2_copyFrom_91 (by first | rfl | (apply zL_fi <;> first | assumption | decide) | (apply zR_fi <;> first | assumption | decide)) rfl rfl ?_
  refine go_return (pc := 94) dX2_copyFrom_94 rfl ?_
  refine ⟨rfl, hL.cp (fun f q1 q2 => ?_) (fun i hi => ⟨?_, ?_⟩), ?_⟩
  · match f, q1, q2 with
      | 2, _, _ => simp [uS_1, uA_1]
      | 3, _, _ => simp [uS_1, uA_1]
      | 4, _, _ => simp [uS_1, uA_1]
      | 5, _, _ => simp [uS_1, uA_1]
      | 6, _, _ => simp [uS_1, uA_1]
      | 7, _, _ => simp [uS_1, uA_1]
      | 8, _, _ => simp [uS_1, uA_1]
      | 9, _, _ => simp [uS_1, uA_1]
      | 0, q1, _ => omega
      | 1, q1, _ => omega
      | n + 10, _, q2 => omega
  · simp [uS_2, uA_2, va_cpy, hi]
  · simp [uS_2, uA_2, va_cpy, hi]
  · exact ((((((((((FrG.rf.uA (by simp)).uA (by simp)).uS (by simp)).uS (by simp)).uS (by simp)).uS (by simp)).uS (by simp)).uS (by simp)).uS (by simp)).uS (by simp))

