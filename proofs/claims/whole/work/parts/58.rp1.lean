/-! what mile, carrier, mouth, row answer; none: thrown -/
def ans (a : Option Int32) : Int32 := match a with | none => nI 0 | some v => v
def thr0 {α : Type} (a : Option α) : Int32 := match a with | none => nI 1 | some _ => nI 0
def mileA (n : Nat) (ρ : Nat → Nat) (m w : Int32) : Option Int32 := if inB m n ∧ in0 w 2 then some (if w.toInt = 0 then nI (ρ m.toInt.toNat) else if w.toInt = 1 then zb ((ρ 24).testBit m.toInt.toNat) else nI (ρ (12 + m.toInt.toNat))) else none
def carA (V : zV) (ρ : Nat → Nat) (c w : Int32) : Option Int32 := if inB c (vC V) ∧ in0 w 3 then some (if w.toInt = 0 then nI (vK V c.toInt.toNat) else if w.toInt = 1 then nI (vL V c.toInt.toNat) else if w.toInt = 2 then gM (gos V ρ c.toInt.toNat) else eD (easy V ρ c.toInt.toNat)) else none
def mouA (tw : Nat × (Nat → Nat) × (Nat → Nat)) (s w : Int32) : Option Int32 := if inB s tw.1 ∧ in0 w 1 then some (if w.toInt = 0 then nI (tw.2.1 s.toInt.toNat) else nI (tw.2.2 s.toInt.toNat)) else none
def rowA (to : Nat × (Nat → Int64)) (i : Int32) : Option Int64 := if inB i to.1 then some (to.2 i.toInt.toNat) else none
theorem sshr_lo (x : BitVec 32) (k : Nat) (hk : k ≤ 24) : (x.sshiftRight k).toNat % 2 ^ 8 = x.toNat / 2 ^ k % 2 ^ 8 := by
  apply Nat.eq_of_testBit_eq
  intro i
  rw [Nat.testBit_mod_two_pow, Nat.testBit_mod_two_pow, Nat.testBit_div_two_pow]
  show (decide (i < 8) && (x.sshiftRight k).getLsbD i) = (decide (i < 8) && x.getLsbD (i + k))
  by_cases h : i < 8
  · rw [BitVec.getLsbD_sshiftRight, if_pos (by omega : k + i < 32), Nat.add_comm k i]
    have h2 : ¬ 32 ≤ i := by omega
    simp [h2]
  · simp [h]
theorem tSgn2 {v : Int32} (i : Nat) (hi : i < 4) : (v >>> (nI (24 - 8 * i) &&& 31)) &&& nI 255 = nI (v.toBitVec.toNat / 2 ^ (24 - 8 * i) % 256) := by
  have hs : ∀ i : Nat, i < 4 → ((nI (24 - 8 * i) &&& 31).toBitVec.smod 32).toNat = 24 - 8 * i := by decide
  rw [pk_and _ 8 (by decide)]
  show nI ((v.toBitVec.sshiftRight ((nI (24 - 8 * i) &&& 31).toBitVec.smod 32).toNat).toNat % 2 ^ 8) = _
  rw [hs i hi, sshr_lo _ _ (by omega)]

theorem c_X12_sign {E : zE} {σ : zT} {tx : Nat × (Nat → Nat)} {bd : Nat × (Nat → Nat) × (Nat → Nat)} {sk : Nat × (Nat → Nat)} {tw : Nat × (Nat → Nat) × (Nat → Nat)} {xs : List Nat} {ld : Nat × (Nat → Nat)} {pa sh : Nat × (Nat → Nat → Nat)} {ru : Nat × (Nat → Nat) × (Nat → Nat)} {to : Nat × (Nat → Int64)} {v : Int32} (hC : RefIs σ tx bd sk tw xs ld pa sh ru to) : CalM E 1 yX12_sign cX12_sign 3 (some .int) [.ref (zA E 33 0), .int v] σ (fun r σ' => r = some (.int (if tx.1 + 4 ≤ 80 then nI (tx.1 + 4) else -1)) ∧ RefIs σ' (sSign tx v) bd sk tw xs ld pa sh ru to ∧ FrG [33] σ σ') := by
  refine cal_of_go (own := RX12) rfl (by decide +kernel) (Nat.le_of_ble_eq_true rfl) ?_
  have hT := hC.2.1
  have hL := hT.2.1
  have loop : tx.1 + 4 ≤ 80 → ∀ (i : Nat) (τ : zT), i ≤ 4 → (∀ q, q < 80 → τ.2.1 33 9 q = nI (if tx.1 ≤ q ∧ q < tx.1 + i then tPut tx.2 tx.1 v q else tx.2 q)) → Fr9 [0] [9] σ τ → GoM E 1 RX12 cX12_sign 3 (some .int) (fun r σ' => r = some (.int (if tx.1 + 4 ≤ 80 then nI (tx.1 + 4) else -1)) ∧ RefIs σ' (sSign tx v) bd sk tw xs ld pa sh ru to ∧ FrG [33] σ σ') τ 18 [(0, .ref (zA E 33 0)), (1, .int v), (2, .int (nI i))] [] := by
    intro h4 i
    induction hz : 4 - i using Nat.strongRecOn generalizing i with
    | ind z ih =>
      intro τ hi hO hF
      have h15 : τ.1 33 15 = nI tx.1 := by rw [hF.2.1 _ (by decide)]; exact hT.1
      refine go_iload_n (i := 2) (pc := 18) dX12_sign_18 rfl rfl ?_
      refine go_iconst (nI 4) (pc := 19) dX12_sign_19 (by decide) ?_
      refine go_icmp_ge 53 (pc := 20) dX12_sign_20 (by decide) (fun h20 => ?_) (fun h20 => ?_)
      · first | rw [nI_leI (by omega) (by omega)] at h20 | rw [zi_leN (by omega)] at h20 | rw [zi_Nle (by omega)] at h20 | rw [zi_le] at h20
        have e : i = 4 := by omega
        subst e
        refine go_aload_n (i := 0) (pc := 53) dX12_sign_53 rfl rfl ?_
        refine go_dup (pc := 54) dX12_sign_54 rfl ?_
        refine go_geti fl_X12_118 (pc := 55) dX12_sign_55 (by rfl) ?_
        rw [h15]
        refine go_iconst (nI 4) (pc := 58) dX12_sign_58 (by decide) ?_
        first | with_reducible refine go_iaddN (pc := 59) dX12_sign_59 ?_ | refine go_iadd (pc := 59) dX12_sign_59 ?_
        refine go_puti fp_X12_118 (pc := 60) dX12_sign_60 (by rfl) rfl rfl ?_
        refine go_aload_n (i := 0) (pc := 63) dX12_sign_63 rfl rfl ?_
        refine go_geti fl_X12_118 (pc := 64) dX12_sign_64 (by rfl) ?_
        rw [uS_s]
        refine go_ireturn (pc := 67) dX12_sign_67 rfl ?_
        have hT2 : TapeIs (uS τ 33 15 (nI (tx.1 + 4))) (tx.1 + 4) (tPut tx.2 tx.1 v) := by
          refine ⟨uS_s _ _ _ _, h4, fun q hq => ⟨?_, tPut_lt (fun j hj => (hT.2.2 j hj).2) q hq⟩⟩
          rw [uS_2, hO q hq]
          split
          · rfl
          · rename_i hn; unfold tPut; rw [if_neg hn]
        have hF2 : Fr9 [0, 15] [9] σ (uS τ 33 15 (nI (tx.1 + 4))) := (hF.mono (by simp) (by simp)).uS (by simp)
        refine ⟨by rw [if_pos h4], ?_, hF2.1⟩
        unfold sSign
        rw [if_pos h4]
        exact ⟨(hC.1).fr hF2 (by decide) (by decide), hT2, (hC.2.2.1).fr hF2 (by decide) (by decide) (by decide), (hC.2.2.2.1).fr hF2 (by decide) (by decide), (hC.2.2.2.2.1).fr hF2 (by decide) (by decide) (by decide), (hC.2.2.2.2.2.1).fr hF2 (by decide) (by decide), (hC.2.2.2.2.2.2.1).fr hF2 (by decide) (by decide), (hC.2.2.2.2.2.2.2.1).fr hF2 (by decide) (by decide), (hC.2.2.2.2.2.2.2.2.1).fr hF2 (by decide) (by decide) (by decide), (hC.2.2.2.2.2.2.2.2.2).fr hF2 (by decide) (by decide)⟩
      · first | rw [nI_leI (by omega) (by omega)] at h20 | rw [zi_leN (by omega)] at h20 | rw [zi_Nle (by omega)] at h20 | rw [zi_le] at h20
        refine go_aload_n (i := 0) (pc := 23) dX12_sign_23 rfl rfl ?_
        refine go_getr2 fl_X12_42 (pc := 24) dX12_sign_24 (by rfl) (by rfl) (by rfl) ?_
        refine go_aload_n (i := 0) (pc := 27) dX12_sign_27 rfl rfl ?_
        refine go_geti fl_X12_118 (pc := 28) dX12_sign_28 (by rfl) ?_
        rw [h15]
        refine go_iload_n (i := 2) (pc := 31) dX12_sign_31 rfl rfl ?_
        first | with_reducible refine go_iaddN (pc := 32) dX12_sign_32 ?_ | refine go_iadd (pc := 32) dX12_sign_32 ?_
        refine go_iload_n (i := 1) (pc := 33) dX12_sign_33 rfl rfl ?_
        refine go_bipush (nI 24) (pc := 34) dX12_sign_34 (by decide) ?_
        refine go_bipush (nI 8) (pc := 36) dX12_sign_36 (by decide) ?_
        refine go_iload_n (i := 2) (pc := 38) dX12_sign_38 rfl rfl ?_
        first | with_reducible refine go_imulN (pc := 39) dX12_sign_39 ?_ | refine go_imul (pc := 39) dX12_sign_39 ?_
        refine go_isubN (pc := 40) dX12_sign_40 (by omega) ?_
        refine go_ishr (pc := 41) dX12_sign_41 ?_
        refine go_sipush (nI 255) (pc := 42) dX12_sign_42 (by decide) ?_
        refine go_iand (pc := 45) dX12_sign_45 ?_
        rw [tSgn2 i (by omega)]
        refine go_iastore (tx.1 + i) (pc := 46) dX12_sign_46 rfl rfl rfl (by omega) ?_
        refine go_iincN (pc := 47) dX12_sign_47 rfl (by decide) ?_
        refine go_goto 18 (pc := 50) dX12_sign_50 (by decide) ?_
        refine ih (4 - (i + 1)) (by omega) (i + 1) rfl _ (by omega) (fun q hq => ?_) (hF.uA (by simp))
        rw [uA_s, upd_at]
        by_cases h : q = tx.1 + i
        · rw [if_pos h, if_pos (by omega)]
          unfold tPut
          rw [if_pos (by omega), h, Nat.add_sub_cancel_left]
        · rw [if_neg h, hO q hq]
          by_cases h2 : tx.1 ≤ q ∧ q < tx.1 + i
          · rw [if_pos h2, if_pos (by omega)]
          · rw [if_neg h2, if_neg (by omega)]
  refine go_aload_n (i := 0) (pc := 0) dX12_sign_0 rfl rfl ?_
  refine go_iconst (nI 0) (pc := 1) dX12_sign_1 (by decide) ?_
  refine go_puti fp_X12_97 (pc := 2) dX12_sign_2 (by rfl) rfl rfl ?_
  have hF0 : Fr9 [0] [9] σ (uS σ 33 0 (nI 0)) := Fr9.rf.uS (by simp)
  refine go_aload_n (i := 0) (pc := 5) dX12_sign_5 rfl rfl ?_
  refine go_geti fl_X12_118 (pc := 6) dX12_sign_6 (by rfl) ?_
  rw [hF0.2.1 _ (by decide), hT.1]
  refine go_bipush (nI 76) (pc := 9) dX12_sign_9 (by decide) ?_
  refine go_icmp_le 16 (pc := 11) dX12_sign_11 (by decide) (fun h11 => ?_) (fun h11 => ?_)
  · first | rw [nI_leI (by omega) (by omega)] at h11 | rw [zi_leN (by omega)] at h11 | rw [zi_Nle (by omega)] at h11 | rw [zi_le] at h11
    refine go_iconst (nI 0) (pc := 16) dX12_sign_16 (by decide) ?_
    refine go_istore_n (i := 2) (pc := 17) dX12_sign_17 rfl (by decide) ?_
    exact loop (by omega) 0 _ (by omega) (fun q hq => by rw [if_neg (by omega)]; exact (hT.2.2 q hq).1) hF0
  · first | rw [nI_leI (by omega) (by omega)] at h11 | rw [zi_leN (by omega)] at h11 | rw [zi_Nle (by omega)] at h11 | rw [zi_le] at h11
    refine go_iconst (-1) (pc := 14) dX12_sign_14 (by decide) ?_
    refine go_ireturn (pc := 15) dX12_sign_15 rfl ?_
    unfold sSign
    rw [if_neg (by omega), if_neg (by omega)]
    exact ⟨rfl, hC.t0.1, hF0.1⟩

theorem c_X12_end {E : zE} {σ : zT} {tx : Nat × (Nat → Nat)} {bd : Nat × (Nat → Nat) × (Nat → Nat)} {sk : Nat × (Nat → Nat)} {tw : Nat × (Nat → Nat) × (Nat → Nat)} {xs : List Nat} {ld : Nat × (Nat → Nat)} {pa sh : Nat × (Nat → Nat → Nat)} {ru : Nat × (Nat → Nat) × (Nat → Nat)} {to : Nat × (Nat → Int64)} {n : Int32} (hC : RefIs σ tx bd sk tw xs ld pa sh ru to) : CalM E 1 yX12_end cX12_end 2 (some .boolean) [.ref (zA E 33 0), .int n] σ (fun r σ' => r = some (.int (zb (decide (0 ≤ n.toInt ∧ n.toInt ≤ (tx.1 : Int))))) ∧ RefIs σ' (sEnd tx n) bd sk tw xs ld pa sh ru to ∧ FrG [33] σ σ') := by
  refine cal_of_go (own := RX12) rfl (by decide +kernel) (Nat.le_of_ble_eq_true rfl) ?_
  have hT := hC.2.1
  have hL := hT.2.1
  refine go_aload_n (i := 0) (pc := 0) dX12_end_0 rfl rfl ?_
  refine go_iconst (nI 0) (pc := 1) dX12_end_1 (by decide) ?_
  refine go_puti fp_X12_97 (pc := 2) dX12_end_2 (by rfl) rfl rfl ?_
  have hF0 : Fr9 [0, 15] [] σ (uS σ 33 0 (nI 0)) := Fr9.rf.uS (by simp)
  refine go_iload_n (i := 1) (pc := 5) dX12_end_5 rfl rfl ?_
  refine go_i2l (pc := 6) dX12_end_6 ?_
  refine go_lconst (lN 0) (pc := 7) dX12_end_7 (by decide) ?_
  refine go_aload_n (i := 0) (pc := 8) dX12_end_8 rfl rfl ?_
  refine go_geti fl_X12_118 (pc := 9) dX12_end_9 (by rfl) ?_
  rw [show (uS σ 33 0 (nI 0)).1 33 15 = nI tx.1 from hT.1]
  refine go_i2l (pc := 12) dX12_end_12 ?_
  refine go_callS ml_X12_107 mt_X12_in (pc := 13) dX12_end_13 (c_in (lo := 0) (hi := (tx.1 : Int)) (by decide) (by rw [zl_i, nI_toInt (by omega)])) (by decide) (by decide) rfl rfl (Nat.le_of_ble_eq_true rfl) (fun r σ' hp => ?_)
  obtain ⟨rfl, hσ⟩ := hp
  rw [hσ]
  clear hσ σ'
  dsimp only [zRet]
  refine go_if_ne 21 (pc := 16) dX12_end_16 (by decide) (fun h16 => ?_) (fun h16 => ?_)
  · first | rw [zb_0d] at h16 | rw [zn_eq0 (by omega)] at h16 | rw [zi_eq0] at h16
    refine go_aload_n (i := 0) (pc := 21) dX12_end_21 rfl rfl ?_
    refine go_iload_n (i := 1) (pc := 22) dX12_end_22 rfl rfl ?_
    refine go_puti fp_X12_118 (pc := 23) dX12_end_23 (by rfl) rfl rfl ?_
    refine go_iconst (nI 1) (pc := 26) dX12_end_26 (by decide) ?_
    refine go_zreturn (pc := 27) dX12_end_27 rfl (by first | rfl | (apply zb_nar)) ?_
    unfold sEnd
    rw [if_pos (by omega)]
    have hF2 : Fr9 [0, 15] [] σ (uS (uS σ 33 0 (nI 0)) 33 15 n) := hF0.uS (by simp)
    have hT2 : TapeIs (uS (uS σ 33 0 (nI 0)) 33 15 n) n.toInt.toNat tx.2 := ⟨by rw [uS_s]; exact nI_of' (by omega), by omega, fun i hi => hT.2.2 i hi⟩
    exact ⟨zr_t (by omega), ⟨(hC.1).fr hF2 (by decide) (by decide), hT2, (hC.2.2.1).fr hF2 (by decide) (by decide) (by decide), (hC.2.2.2.1).fr hF2 (by decide) (by decide), (hC.2.2.2.2.1).fr hF2 (by decide) (by decide) (by decide), (hC.2.2.2.2.2.1).fr hF2 (by decide) (by decide), (hC.2.2.2.2.2.2.1).fr hF2 (by decide) (by decide), (hC.2.2.2.2.2.2.2.1).fr hF2 (by decide) (by decide), (hC.2.2.2.2.2.2.2.2.1).fr hF2 (by decide) (by decide) (by decide), (hC.2.2.2.2.2.2.2.2.2).fr hF2 (by decide) (by decide)⟩, hF2.1⟩
  · first | rw [zb_0d] at h16 | rw [zn_eq0 (by omega)] at h16 | rw [zi_eq0] at h16
    refine go_iconst (nI 0) (pc := 19) dX12_end_19 (by decide) ?_
    refine go_zreturn (pc := 20) dX12_end_20 rfl rfl ?_
    unfold sEnd
    rw [if_neg (by omega)]
    exact ⟨zr_f (by omega), hC.t0.1, hF0.1⟩

theorem c_X12_mile {E : zE} {σ : zT} {tx : Nat × (Nat → Nat)} {bd : Nat × (Nat → Nat) × (Nat → Nat)} {sk : Nat × (Nat → Nat)} {tw : Nat × (Nat → Nat) × (Nat → Nat)} {xs : List Nat} {ld : Nat × (Nat → Nat)} {pa sh : Nat × (Nat → Nat → Nat)} {ru : Nat × (Nat → Nat) × (Nat → Nat)} {to : Nat × (Nat → Int64)} {m w : Int32} (hC : RefIs σ tx bd sk tw xs ld pa sh ru to) : CalM E 2 yX12_mile cX12_mile 3 (some .int) [.ref (zA E 33 0), .int m, .int w] σ (fun r σ' => r = some (.int (ans (mileA ld.1 ld.2 m w))) ∧ RefIs σ' tx bd sk tw xs ld pa sh ru to ∧ FrG [33] σ σ' ∧ σ'.1 33 0 = thr0 (mileA ld.1 ld.2 m w)) := by
  refine cal_of_go (own := RX12) rfl (by decide +kernel) (Nat.le_of_ble_eq_true rfl) ?_
  refine go_aload_n (i := 0) (pc := 0) dX12_mile_0 rfl rfl ?_
  refine go_iconst (nI 0) (pc := 1) dX12_mile_1 (by decide) ?_
  refine go_puti fp_X12_97 (pc := 2) dX12_mile_2 (by rfl) rfl rfl ?_
  obtain ⟨hC0, hG0, ht0⟩ := hC.t0
  generalize uS σ 33 0 (nI 0) = τ0 at hC0 hG0 ht0 ⊢
  have hN := hC0.2.2.2.2.2.1
  have hn : 1 ≤ ld.1 ∧ ld.1 ≤ 12 := ⟨hN.2.1.1, hN.2.1.2.1⟩
  have hg : ld.2 24 < 2 ^ 12 := Nat.lt_of_lt_of_le hN.2.1.2.2.2.1 (Nat.pow_le_pow_right (by decide) hn.2)
  refine go_aload_n (i := 0) (pc := 5) dX12_mile_5 rfl rfl ?_
  refine go_iload_n (i := 1) (pc := 6) dX12_mile_6 rfl rfl ?_
  refine go_callV ml_X12_276 mt_X12_isMile (pc := 7) dX12_mile_7 (c_X12_isMile hN.1 (by omega)) (by rfl) rfl (by rfl) (by decide) (by decide) rfl rfl (Nat.le_of_ble_eq_true rfl) (fun r σ' hp => ?_)
  obtain ⟨rfl, hσ⟩ := hp
  rw [hσ]
  clear hσ σ'
  dsimp only [zRet]
  refine go_if_eq 25 (pc := 10) dX12_mile_10 (by decide) (fun h10 => ?_) (fun h10 => ?_)
  · first | rw [zb_0d] at h10 | rw [zn_eq0 (by omega)] at h10 | rw [zi_eq0] at h10
    refine go_aload_n (i := 0) (pc := 25) dX12_mile_25 rfl rfl ?_
    refine go_callV ml_X12_281 mt_X12_refuse (pc := 26) dX12_mile_26 (c_X12_refuse) (by rfl) rfl (by rfl) (by decide) (by decide) rfl rfl (Nat.le_of_ble_eq_true rfl) (fun r σ' hp => ?_)
    obtain ⟨rfl, hσ⟩ := hp
    rw [hσ]
    clear hσ σ'
    dsimp only [zRet]
    refine go_ireturn (pc := 29) dX12_mile_29 rfl ?_
    rw [show mileA ld.1 ld.2 m w = none from if_neg (by omega)]
    exact ⟨rfl, (hC0.fr (fs := [0]) (js := []) (Fr9.rf.uS (by simp)) (by decide) (by decide)), hG0.uS (by simp), uS_s _ _ _ _⟩
  · first | rw [zb_0d] at h10 | rw [zn_eq0 (by omega)] at h10 | rw [zi_eq0] at h10
    refine go_iload_n (i := 2) (pc := 13) dX12_mile_13 rfl rfl ?_
    refine go_i2l (pc := 14) dX12_mile_14 ?_
    refine go_lconst (lN 0) (pc := 15) dX12_mile_15 (by decide) ?_
    refine go_ldc2 (2) kc_X12_279 (pc := 16) dX12_mile_16 ?_
    refine go_callS ml_X12_107 mt_X12_in (pc := 19) dX12_mile_19 (c_in (lo := 0) (hi := 2) (by decide) (by decide)) (by decide) (by decide) rfl rfl (Nat.le_of_ble_eq_true rfl) (fun r σ' hp => ?_)
    obtain ⟨rfl, hσ⟩ := hp
    rw [hσ]
    clear hσ σ'
    dsimp only [zRet]
    refine go_if_ne 30 (pc := 22) dX12_mile_22 (by decide) (fun h22 => ?_) (fun h22 => ?_)
    · first | rw [zb_0d] at h22 | rw [zn_eq0 (by omega)] at h22 | rw [zi_eq0] at h22
      rw [show mileA ld.1 ld.2 m w = some _ from if_pos (by omega)]
      dsimp only [ans, thr0]
      have em1 := nI_of' (x := m) (by omega)
      generalize hqm1 : m.toInt.toNat = m1 at em1 ⊢
      subst em1
      refine go_iload_n (i := 2) (pc := 30) dX12_mile_30 rfl rfl ?_
      refine go_if_ne 43 (pc := 31) dX12_mile_31 (by decide) (fun h31 => ?_) (fun h31 => ?_)
      · first | rw [zb_0d] at h31 | rw [zn_eq0 (by omega)] at h31 | rw [zi_eq0] at h31
        rw [if_neg h31]
        refine go_iload_n (i := 2) (pc := 43) dX12_mile_43 rfl rfl ?_
        refine go_iconst (nI 1) (pc := 44) dX12_mile_44 (by decide) ?_
        refine go_icmp_ne 63 (pc := 45) dX12_mile_45 (by decide) (fun h45 => ?_) (fun h45 => ?_)
        · first | rw [nI_eq (by omega) (by omega)] at h45 | rw [zi_eqN (by omega)] at h45 | rw [zi_Neq (by omega)] at h45 | rw [zi_eq] at h45
          rw [if_neg (show ¬ w.toInt = 1 by omega)]
          refine go_aload_n (i := 0) (pc := 63) dX12_mile_63 rfl rfl ?_
          refine go_getr2 fl_X12_36 (pc := 64) dX12_mile_64 (by rfl) (by rfl) (by rfl) ?_
          refine go_bipush (nI 12) (pc := 67) dX12_mile_67 (by decide) ?_
          refine go_iload_n (i := 1) (pc := 69) dX12_mile_69 rfl rfl ?_
          first | with_reducible refine go_iaddN (pc := 70) dX12_mile_70 ?_ | refine go_iadd (pc := 70) dX12_mile_70 ?_
          refine go_iaload _ (pc := 71) dX12_mile_71 (by first | rfl | (apply zM_ar <;> assumption)) (by first | rfl | (apply zM_jn <;> assumption)) rfl (by first | assumption | omega) ?_
          rw [hN.2.2 (12 + m1) (by omega)]
          refine go_ireturn (pc := 72) dX12_mile_72 rfl ?_
          exact ⟨rfl, hC0, hG0, ht0⟩
        · first | rw [nI_eq (by omega) (by omega)] at h45 | rw [zi_eqN (by omega)] at h45 | rw [zi_Neq (by omega)] at h45 | rw [zi_eq] at h45
          have h45 : w.toInt = 1 := by omega
          rw [if_pos h45]
          refine go_aload_n (i := 0) (pc := 48) dX12_mile_48 rfl rfl ?_
          refine go_aload_n (i := 0) (pc := 49) dX12_mile_49 rfl rfl ?_
          refine go_getr2 fl_X12_36 (pc := 50) dX12_mile_50 (by rfl) (by rfl) (by rfl) ?_
          refine go_iload_n (i := 1) (pc := 53) dX12_mile_53 rfl rfl ?_
          refine go_callV ml_X12_247 mt_X12_isGate (pc := 54) dX12_mile_54 (c_X12_isGate (j := 7) rfl hN.2.2 hg (by omega)) (by rfl) rfl (by rfl) (by decide) (by decide) rfl rfl (Nat.le_of_ble_eq_true rfl) (fun r σ' hp => ?_)
          obtain ⟨rfl, hσ⟩ := hp
          rw [hσ]
          clear hσ σ'
          dsimp only [zRet]
          refine go_callS ml_X12_136 mt_X12_flag (pc := 57) dX12_mile_57 (c_X12_flag) (by decide) (by decide) rfl rfl (Nat.le_of_ble_eq_true rfl) (fun r σ' hp => ?_)
          obtain ⟨rfl, hσ⟩ := hp
          rw [hσ]
          clear hσ σ'
          dsimp only [zRet]
          refine go_goto 72 (pc := 60) dX12_mile_60 (by decide) ?_
          refine go_ireturn (pc := 72) dX12_mile_72 rfl ?_
          exact ⟨rfl, hC0, hG0, ht0⟩
      · first | rw [zb_0d] at h31 | rw [zn_eq0 (by omega)] at h31 | rw [zi_eq0] at h31
        have h31 : w.toInt = 0 := by omega
        rw [if_pos h31]
        refine go_aload_n (i := 0) (pc := 34) dX12_mile_34 rfl rfl ?_
        refine go_getr2 fl_X12_36 (pc := 35) dX12_mile_35 (by rfl) (by rfl) (by rfl) ?_
        refine go_iload_n (i := 1) (pc := 38) dX12_mile_38 rfl rfl ?_
        refine go_iaload _ (pc := 39) dX12_mile_39 (by first | rfl | (apply zM_ar <;> assumption)) (by first | rfl | (apply zM_jn <;> assumption)) rfl (by first | assumption | omega) ?_
        rw [hN.2.2 m1 (by omega)]
        refine go_goto 72 (pc := 40) dX12_mile_40 (by decide) ?_
        refine go_ireturn (pc := 72) dX12_mile_72 rfl ?_
        exact ⟨rfl, hC0, hG0, ht0⟩
    · first | rw [zb_0d] at h22 | rw [zn_eq0 (by omega)] at h22 | rw [zi_eq0] at h22
      refine go_aload_n (i := 0) (pc := 25) dX12_mile_25 rfl rfl ?_
      refine go_callV ml_X12_281 mt_X12_refuse (pc := 26) dX12_mile_26 (c_X12_refuse) (by rfl) rfl (by rfl) (by decide) (by decide) rfl rfl (Nat.le_of_ble_eq_true rfl) (fun r σ' hp => ?_)
      obtain ⟨rfl, hσ⟩ := hp
      rw [hσ]
      clear hσ σ'
      dsimp only [zRet]
      refine go_ireturn (pc := 29) dX12_mile_29 rfl ?_
      rw [show mileA ld.1 ld.2 m w = none from if_neg (by omega)]
      exact ⟨rfl, (hC0.fr (fs := [0]) (js := []) (Fr9.rf.uS (by simp)) (by decide) (by decide)), hG0.uS (by simp), uS_s _ _ _ _⟩

theorem c_X12_mouth {E : zE} {σ : zT} {tx : Nat × (Nat → Nat)} {bd : Nat × (Nat → Nat) × (Nat → Nat)} {sk : Nat × (Nat → Nat)} {tw : Nat × (Nat → Nat) × (Nat → Nat)} {xs : List Nat} {ld : Nat × (Nat → Nat)} {pa sh : Nat × (Nat → Nat → Nat)} {ru : Nat × (Nat → Nat) × (Nat → Nat)} {to : Nat × (Nat → Int64)} {m w : Int32} (hC : RefIs σ tx bd sk tw xs ld pa sh ru to) : CalM E 2 yX12_mouth cX12_mouth 3 (some .int) [.ref (zA E 33 0), .int m, .int w] σ (fun r σ' => r = some (.int (ans (mouA tw m w))) ∧ RefIs σ' tx bd sk tw xs ld pa sh ru to ∧ FrG [33] σ σ' ∧ σ'.1 33 0 = thr0 (mouA tw m w)) := by
  refine cal_of_go (own := RX12) rfl (by decide +kernel) (Nat.le_of_ble_eq_true rfl) ?_
  refine go_aload_n (i := 0) (pc := 0) dX12_mouth_0 rfl rfl ?_
  refine go_iconst (nI 0) (pc := 1) dX12_mouth_1 (by decide) ?_
  refine go_puti fp_X12_97 (pc := 2) dX12_mouth_2 (by rfl) rfl rfl ?_
  obtain ⟨hC0, hG0, ht0⟩ := hC.t0
  generalize uS σ 33 0 (nI 0) = τ0 at hC0 hG0 ht0 ⊢
  have hS := hC0.2.2.2.2.1
  have hs8 := hS.1
  refine go_iload_n (i := 1) (pc := 5) dX12_mouth_5 rfl rfl ?_
  refine go_i2l (pc := 6) dX12_mouth_6 ?_
  refine go_lconst (lN 0) (pc := 7) dX12_mouth_7 (by decide) ?_
  refine go_aload_n (i := 0) (pc := 8) dX12_mouth_8 rfl rfl ?_
  refine go_geti fl_X12_200 (pc := 9) dX12_mouth_9 (by rfl) ?_
  rw [hS.2.1]
  refine go_iconst (nI 1) (pc := 12) dX12_mouth_12 (by decide) ?_
  refine go_isub (pc := 13) dX12_mouth_13 ?_
  refine go_i2l (pc := 14) dX12_mouth_14 ?_
  refine go_callS ml_X12_107 mt_X12_in (pc := 15) dX12_mouth_15 (c_in (lo := 0) (hi := (tw.1 : Int) - 1) (by decide) (by rw [zl_i, zi_p (by omega)])) (by decide) (by decide) rfl rfl (Nat.le_of_ble_eq_true rfl) (fun r σ' hp => ?_)
  obtain ⟨rfl, hσ⟩ := hp
  rw [hσ]
  clear hσ σ'
  dsimp only [zRet]
  refine go_if_eq 31 (pc := 18) dX12_mouth_18 (by decide) (fun h18 => ?_) (fun h18 => ?_)
  · first | rw [zb_0d] at h18 | rw [zn_eq0 (by omega)] at h18 | rw [zi_eq0] at h18
    refine go_aload_n (i := 0) (pc := 31) dX12_mouth_31 rfl rfl ?_
    refine go_callV ml_X12_281 mt_X12_refuse (pc := 32) dX12_mouth_32 (c_X12_refuse) (by rfl) rfl (by rfl) (by decide) (by decide) rfl rfl (Nat.le_of_ble_eq_true rfl) (fun r σ' hp => ?_)
    obtain ⟨rfl, hσ⟩ := hp
    rw [hσ]
    clear hσ σ'
    dsimp only [zRet]
    refine go_ireturn (pc := 35) dX12_mouth_35 rfl ?_
    rw [show mouA tw m w = none from if_neg (by omega)]
    exact ⟨rfl, (hC0.fr (fs := [0]) (js := []) (Fr9.rf.uS (by simp)) (by decide) (by decide)), hG0.uS (by simp), uS_s _ _ _ _⟩
  · first | rw [zb_0d] at h18 | rw [zn_eq0 (by omega)] at h18 | rw [zi_eq0] at h18
    refine go_iload_n (i := 2) (pc := 21) dX12_mouth_21 rfl rfl ?_
    refine go_i2l (pc := 22) dX12_mouth_22 ?_
    refine go_lconst (lN 0) (pc := 23) dX12_mouth_23 (by decide) ?_
    refine go_lconst (lN 1) (pc := 24) dX12_mouth_24 (by decide) ?_
    refine go_callS ml_X12_107 mt_X12_in (pc := 25) dX12_mouth_25 (c_in (lo := 0) (hi := 1) (by decide) (by decide)) (by decide) (by decide) rfl rfl (Nat.le_of_ble_eq_true rfl) (fun r σ' hp => ?_)
    obtain ⟨rfl, hσ⟩ := hp
    rw [hσ]
    clear hσ σ'
    dsimp only [zRet]
    refine go_if_ne 36 (pc := 28) dX12_mouth_28 (by decide) (fun h28 => ?_) (fun h28 => ?_)
    · first | rw [zb_0d] at h28 | rw [zn_eq0 (by omega)] at h28 | rw [zi_eq0] at h28
      rw [show mouA tw m w = some _ from if_pos (by omega)]
      dsimp only [ans, thr0]
      have em1 := nI_of' (x := m) (by omega)
      generalize hqm1 : m.toInt.toNat = m1 at em1 ⊢
      subst em1
      refine go_iload_n (i := 2) (pc := 36) dX12_mouth_36 rfl rfl ?_
      refine go_if_ne 49 (pc := 37) dX12_mouth_37 (by decide) (fun h37 => ?_) (fun h37 => ?_)
      · first | rw [zb_0d] at h37 | rw [zn_eq0 (by omega)] at h37 | rw [zi_eq0] at h37
        rw [if_neg h37]
        refine go_aload_n (i := 0) (pc := 49) dX12_mouth_49 rfl rfl ?_
        refine go_getr2 fl_X12_33 (pc := 50) dX12_mouth_50 (by rfl) (by rfl) (by rfl) ?_
        refine go_iload_n (i := 1) (pc := 53) dX12_mouth_53 rfl rfl ?_
        refine go_iaload _ (pc := 54) dX12_mouth_54 (by first | rfl | (apply zM_ar <;> assumption)) (by first | rfl | (apply zM_jn <;> assumption)) rfl (by first | assumption | omega) ?_
        rw [(hS.2.2 m1 (by omega)).2.1]
        refine go_ireturn (pc := 55) dX12_mouth_55 rfl ?_
        exact ⟨rfl, hC0, hG0, ht0⟩
      · first | rw [zb_0d] at h37 | rw [zn_eq0 (by omega)] at h37 | rw [zi_eq0] at h37
        have h37 : w.toInt = 0 := by omega
        rw [if_pos h37]
        refine go_aload_n (i := 0) (pc := 40) dX12_mouth_40 rfl rfl ?_
        refine go_getr2 fl_X12_30 (pc := 41) dX12_mouth_41 (by rfl) (by rfl) (by rfl) ?_
        refine go_iload_n (i := 1) (pc := 44) dX12_mouth_44 rfl rfl ?_
        refine go_iaload _ (pc := 45) dX12_mouth_45 (by first | rfl | (apply zM_ar <;> assumption)) (by first | rfl | (apply zM_jn <;> assumption)) rfl (by first | assumption | omega) ?_
        rw [(hS.2.2 m1 (by omega)).1]
        refine go_goto 55 (pc := 46) dX12_mouth_46 (by decide) ?_
        refine go_ireturn (pc := 55) dX12_mouth_55 rfl ?_
        exact ⟨rfl, hC0, hG0, ht0⟩
    · first | rw [zb_0d] at h28 | rw [zn_eq0 (by omega)] at h28 | rw [zi_eq0] at h28
      refine go_aload_n (i := 0) (pc := 31) dX12_mouth_31 rfl rfl ?_
      refine go_callV ml_X12_281 mt_X12_refuse (pc := 32) dX12_mouth_32 (c_X12_refuse) (by rfl) rfl (by rfl) (by decide) (by decide) rfl rfl (Nat.le_of_ble_eq_true rfl) (fun r σ' hp => ?_)
      obtain ⟨rfl, hσ⟩ := hp
      rw [hσ]
      clear hσ σ'
      dsimp only [zRet]
      refine go_ireturn (pc := 35) dX12_mouth_35 rfl ?_
      rw [show mouA tw m w = none from if_neg (by omega)]
      exact ⟨rfl, (hC0.fr (fs := [0]) (js := []) (Fr9.rf.uS (by simp)) (by decide) (by decide)), hG0.uS (by simp), uS_s _ _ _ _⟩

theorem c_X12_carrier {E : zE} {σ : zT} {tx : Nat × (Nat → Nat)} {bd : Nat × (Nat → Nat) × (Nat → Nat)} {sk : Nat × (Nat → Nat)} {tw : Nat × (Nat → Nat) × (Nat → Nat)} {xs : List Nat} {ld : Nat × (Nat → Nat)} {pa sh : Nat × (Nat → Nat → Nat)} {ru : Nat × (Nat → Nat) × (Nat → Nat)} {to : Nat × (Nat → Int64)} {m w : Int32} (hC : RefIs σ tx bd sk tw xs ld pa sh ru to) : CalM E 7 yX12_carrier cX12_carrier 4 (some .int) [.ref (zA E 33 0), .int m, .int w] σ (fun r σ' => r = some (.int (ans (carA (vOf bd sk xs ld.1) ld.2 m w))) ∧ RefIs σ' tx bd sk tw xs ld pa sh ru to ∧ FrG [33] σ σ' ∧ σ'.1 33 0 = thr0 (carA (vOf bd sk xs ld.1) ld.2 m w)) := by
  refine cal_of_go (own := RX12) rfl (by decide +kernel) (Nat.le_of_ble_eq_true rfl) ?_
  refine go_aload_n (i := 0) (pc := 0) dX12_carrier_0 rfl rfl ?_
  refine go_iconst (nI 0) (pc := 1) dX12_carrier_1 (by decide) ?_
  refine go_puti fp_X12_97 (pc := 2) dX12_carrier_2 (by rfl) rfl rfl ?_
  obtain ⟨hC0, hG0, ht0⟩ := hC.t0
  generalize uS σ 33 0 (nI 0) = τ0 at hC0 hG0 ht0 ⊢
  have hN := hC0.2.2.2.2.2.1
  have hn : 1 ≤ ld.1 ∧ ld.1 ≤ 12 := ⟨hN.2.1.1, hN.2.1.2.1⟩
  have hg : ld.2 24 < 2 ^ 12 := Nat.lt_of_lt_of_le hN.2.1.2.2.2.1 (Nat.pow_le_pow_right (by decide) hn.2)
  have hB := hC0.2.2.1
  have hc8 := hB.1
  refine go_aload_n (i := 0) (pc := 5) dX12_carrier_5 rfl rfl ?_
  refine go_iload_n (i := 1) (pc := 6) dX12_carrier_6 rfl rfl ?_
  refine go_callV ml_X12_284 mt_X12_isCarrier (pc := 7) dX12_carrier_7 (c_X12_isCarrier hB.2.1 (by omega)) (by rfl) rfl (by rfl) (by decide) (by decide) rfl rfl (Nat.le_of_ble_eq_true rfl) (fun r σ' hp => ?_)
  obtain ⟨rfl, hσ⟩ := hp
  rw [hσ]
  clear hσ σ'
  dsimp only [zRet]
  refine go_if_eq 25 (pc := 10) dX12_carrier_10 (by decide) (fun h10 => ?_) (fun h10 => ?_)
  · first | rw [zb_0d] at h10 | rw [zn_eq0 (by omega)] at h10 | rw [zi_eq0] at h10
    refine go_aload_n (i := 0) (pc := 25) dX12_carrier_25 rfl rfl ?_
    refine go_callV ml_X12_281 mt_X12_refuse (pc := 26) dX12_carrier_26 (c_X12_refuse) (by rfl) rfl (by rfl) (by decide) (by decide) rfl rfl (Nat.le_of_ble_eq_true rfl) (fun r σ' hp => ?_)
    obtain ⟨rfl, hσ⟩ := hp
    rw [hσ]
    clear hσ σ'
    dsimp only [zRet]
    refine go_ireturn (pc := 29) dX12_carrier_29 rfl ?_
    rw [show carA (vOf bd sk xs ld.1) ld.2 m w = none from if_neg (show ¬ (inB m bd.1 ∧ in0 w 3) by omega)]
    exact ⟨rfl, (hC0.fr (fs := [0]) (js := []) (Fr9.rf.uS (by simp)) (by decide) (by decide)), hG0.uS (by simp), uS_s _ _ _ _⟩
  · first | rw [zb_0d] at h10 | rw [zn_eq0 (by omega)] at h10 | rw [zi_eq0] at h10
    refine go_iload_n (i := 2) (pc := 13) dX12_carrier_13 rfl rfl ?_
    refine go_i2l (pc := 14) dX12_carrier_14 ?_
    refine go_lconst (lN 0) (pc := 15) dX12_carrier_15 (by decide) ?_
    refine go_ldc2 (3) kc_X12_287 (pc := 16) dX12_carrier_16 ?_
    refine go_callS ml_X12_107 mt_X12_in (pc := 19) dX12_carrier_19 (c_in (lo := 0) (hi := 3) (by decide) (by decide)) (by decide) (by decide) rfl rfl (Nat.le_of_ble_eq_true rfl) (fun r σ' hp => ?_)
    obtain ⟨rfl, hσ⟩ := hp
    rw [hσ]
    clear hσ σ'
    dsimp only [zRet]
    refine go_if_ne 30 (pc := 22) dX12_carrier_22 (by decide) (fun h22 => ?_) (fun h22 => ?_)
    · first | rw [zb_0d] at h22 | rw [zn_eq0 (by omega)] at h22 | rw [zi_eq0] at h22
      have hm : m.toInt < (bd.1 : Int) := by omega
      rw [show carA (vOf bd sk xs ld.1) ld.2 m w = some _ from if_pos (show inB m bd.1 ∧ in0 w 3 by omega)]
      dsimp only [ans, thr0]
      have em1 := nI_of' (x := m) (by omega)
      generalize hqm1 : m.toInt.toNat = m1 at em1 ⊢
      subst em1
      have hc : m1 < vC (vOf bd sk xs ld.1) := by show m1 < bd.1; omega
      refine go_aload_n (i := 0) (pc := 30) dX12_carrier_30 rfl rfl ?_
      refine go_aload_n (i := 0) (pc := 31) dX12_carrier_31 rfl rfl ?_
      refine go_getr2 fl_X12_36 (pc := 32) dX12_carrier_32 (by rfl) (by rfl) (by rfl) ?_
      refine go_iload_n (i := 1) (pc := 35) dX12_carrier_35 rfl rfl ?_
      refine go_callV ml_X12_272 mt_X12_easiest (pc := 36) dX12_carrier_36 (c_X12_easiest (V := vOf bd sk xs ld.1) (j := 7) hC0.env hN.2.2 hN.2.1 rfl hc) (by rfl) rfl (by rfl) (by decide) (by decide) rfl rfl (Nat.le_of_ble_eq_true rfl) (fun r σ' hp => ?_)
      obtain ⟨rfl, h27, h28, hF⟩ := hp
      dsimp only [zRet]
      have hC1 := hC0.fr hF (by decide) (by decide)
      have hN1 := hC1.2.2.2.2.2.1
      have hB2 := hC1.2.2.1
      have hG1 := hG0.tr hF.1
      have ht1 : σ'.1 33 0 = nI 0 := by rw [hF.2.1 _ (by decide)]; exact ht0
      refine go_istore_n (i := 3) (pc := 39) dX12_carrier_39 rfl (by decide) ?_
      refine go_iload_n (i := 2) (pc := 40) dX12_carrier_40 rfl rfl ?_
      rcases (show w.toInt < 0 ∨ 2 < w.toInt ∨ w.toInt = 0 ∨ w.toInt = 1 ∨ w.toInt = 2 by omega) with h41 | h41 | h41 | h41 | h41
      · rw [if_neg (by omega), if_neg (by omega), if_neg (by omega)]
        refine go_tableOut 100 (pc := 41) dX12_carrier_41 (by omega) (by decide) ?_
        refine go_aload_n (i := 0) (pc := 100) dX12_carrier_100 rfl rfl ?_
        refine go_geti fl_X12_265 (pc := 101) dX12_carrier_101 (by rfl) ?_
        rw [h28]
        refine go_ireturn (pc := 104) dX12_carrier_104 rfl ?_
        exact ⟨rfl, hC1, hG1, ht1⟩
      · rw [if_neg (by omega), if_neg (by omega), if_neg (by omega)]
        refine go_tableOut 100 (pc := 41) dX12_carrier_41 (by omega) (by decide) ?_
        refine go_aload_n (i := 0) (pc := 100) dX12_carrier_100 rfl rfl ?_
        refine go_geti fl_X12_265 (pc := 101) dX12_carrier_101 (by rfl) ?_
        rw [h28]
        refine go_ireturn (pc := 104) dX12_carrier_104 rfl ?_
        exact ⟨rfl, hC1, hG1, ht1⟩
      · rw [if_pos h41]
        refine go_tableIn 68 (pc := 41) dX12_carrier_41 (by omega) (by omega) (by rw [h41]; rfl) (by decide) ?_
        refine go_aload_n (i := 0) (pc := 68) dX12_carrier_68 rfl rfl ?_
        refine go_getr2 fl_X12_24 (pc := 69) dX12_carrier_69 (by rfl) (by rfl) (by rfl) ?_
        refine go_iload_n (i := 1) (pc := 72) dX12_carrier_72 rfl rfl ?_
        refine go_iaload _ (pc := 73) dX12_carrier_73 (by first | rfl | (apply zM_ar <;> assumption)) (by first | rfl | (apply zM_jn <;> assumption)) rfl (by first | assumption | omega) ?_
        rw [(hB2.2.2 m1 (by omega)).1]
        refine go_ireturn (pc := 74) dX12_carrier_74 rfl ?_
        exact ⟨rfl, hC1, hG1, ht1⟩
      · rw [if_neg (by omega), if_pos h41]
        refine go_tableIn 75 (pc := 41) dX12_carrier_41 (by omega) (by omega) (by rw [h41]; rfl) (by decide) ?_
        refine go_aload_n (i := 0) (pc := 75) dX12_carrier_75 rfl rfl ?_
        refine go_getr2 fl_X12_27 (pc := 76) dX12_carrier_76 (by rfl) (by rfl) (by rfl) ?_
        refine go_iload_n (i := 1) (pc := 79) dX12_carrier_79 rfl rfl ?_
        refine go_iaload _ (pc := 80) dX12_carrier_80 (by first | rfl | (apply zM_ar <;> assumption)) (by first | rfl | (apply zM_jn <;> assumption)) rfl (by first | assumption | omega) ?_
        rw [(hB2.2.2 m1 (by omega)).2.1]
        refine go_ireturn (pc := 81) dX12_carrier_81 rfl ?_
        exact ⟨rfl, hC1, hG1, ht1⟩
      · rw [if_neg (by omega), if_neg (by omega), if_pos h41]
        refine go_tableIn 82 (pc := 41) dX12_carrier_41 (by omega) (by omega) (by rw [h41]; rfl) (by decide) ?_
        refine go_aload_n (i := 0) (pc := 82) dX12_carrier_82 rfl rfl ?_
        refine go_aload_n (i := 0) (pc := 83) dX12_carrier_83 rfl rfl ?_
        refine go_getr2 fl_X12_36 (pc := 84) dX12_carrier_84 (by rfl) (by rfl) (by rfl) ?_
        refine go_iload_n (i := 1) (pc := 87) dX12_carrier_87 rfl rfl ?_
        refine go_callV ml_X12_289 mt_X12_worthOf (pc := 88) dX12_carrier_88 (c_X12_worthOf (V := vOf bd sk xs ld.1) (j := 7) hC1.env hN1.2.2 hN1.2.1 rfl hc) (by rfl) rfl (by rfl) (by decide) (by decide) rfl rfl (Nat.le_of_ble_eq_true rfl) (fun r σ'' hp => ?_)
        obtain ⟨rfl, -, -, hF2⟩ := hp
        dsimp only [zRet]
        have hC2 := hC1.fr hF2 (by decide) (by decide)
        have hG2 := hG1.tr hF2.1
        have ht2 : σ''.1 33 0 = nI 0 := by rw [hF2.2.1 _ (by decide)]; exact ht1
        refine go_if_le 98 (pc := 91) dX12_carrier_91 (by decide) (fun h91 => ?_) (fun h91 => ?_)
        · rw [wI_le (hC1.env.vok hN1.2.1) hN1.2.1 hc] at h91
          rw [h91]
          refine go_iconst (-1) (pc := 98) dX12_carrier_98 (by decide) ?_
          refine go_ireturn (pc := 99) dX12_carrier_99 rfl ?_
          exact ⟨rfl, hC2, hG2, ht2⟩
        · rw [wI_le (hC1.env.vok hN1.2.1) hN1.2.1 hc] at h91
          obtain ⟨b, hgs⟩ := Option.ne_none_iff_exists'.mp h91
          obtain ⟨x, hes⟩ := gos_easy hgs
          rw [hgs, hes]
          refine go_iload_n (i := 3) (pc := 94) dX12_carrier_94 rfl rfl ?_
          refine go_goto 99 (pc := 95) dX12_carrier_95 (by decide) ?_
          refine go_ireturn (pc := 99) dX12_carrier_99 rfl ?_
          exact ⟨rfl, hC2, hG2, ht2⟩
    · first | rw [zb_0d] at h22 | rw [zn_eq0 (by omega)] at h22 | rw [zi_eq0] at h22
      refine go_aload_n (i := 0) (pc := 25) dX12_carrier_25 rfl rfl ?_
      refine go_callV ml_X12_281 mt_X12_refuse (pc := 26) dX12_carrier_26 (c_X12_refuse) (by rfl) rfl (by rfl) (by decide) (by decide) rfl rfl (Nat.le_of_ble_eq_true rfl) (fun r σ' hp => ?_)
      obtain ⟨rfl, hσ⟩ := hp
      rw [hσ]
      clear hσ σ'
      dsimp only [zRet]
      refine go_ireturn (pc := 29) dX12_carrier_29 rfl ?_
      rw [show carA (vOf bd sk xs ld.1) ld.2 m w = none from if_neg (show ¬ (inB m bd.1 ∧ in0 w 3) by omega)]
      exact ⟨rfl, (hC0.fr (fs := [0]) (js := []) (Fr9.rf.uS (by simp)) (by decide) (by decide)), hG0.uS (by simp), uS_s _ _ _ _⟩

theorem c_X12_danger {E : zE} {σ : zT} {tx : Nat × (Nat → Nat)} {bd : Nat × (Nat → Nat) × (Nat → Nat)} {sk : Nat × (Nat → Nat)} {tw : Nat × (Nat → Nat) × (Nat → Nat)} {xs : List Nat} {ld : Nat × (Nat → Nat)} {pa sh : Nat × (Nat → Nat → Nat)} {ru : Nat × (Nat → Nat) × (Nat → Nat)} {to : Nat × (Nat → Int64)} {c m : Int32} (hC : RefIs σ tx bd sk tw xs ld pa sh ru to) : CalM E 5 yX12_danger cX12_danger 4 (some .int) [.ref (zA E 33 0), .int c, .int m] σ (fun r σ' => r = some (.int (if inB c bd.1 ∧ inB m ld.1 then dI (dng (vOf bd sk xs ld.1) ld.2 c.toInt.toNat m.toInt.toNat) else -1)) ∧ RefIs σ' tx bd sk tw xs ld pa sh ru to ∧ FrG [33] σ σ') := by
  refine cal_of_go (own := RX12) rfl (by decide +kernel) (Nat.le_of_ble_eq_true rfl) ?_
  refine go_aload_n (i := 0) (pc := 0) dX12_danger_0 rfl rfl ?_
  refine go_iconst (nI 0) (pc := 1) dX12_danger_1 (by decide) ?_
  refine go_puti fp_X12_97 (pc := 2) dX12_danger_2 (by rfl) rfl rfl ?_
  obtain ⟨hC0, hG0, ht0⟩ := hC.t0
  generalize uS σ 33 0 (nI 0) = τ0 at hC0 hG0 ht0 ⊢
  have hN := hC0.2.2.2.2.2.1
  have hn : 1 ≤ ld.1 ∧ ld.1 ≤ 12 := ⟨hN.2.1.1, hN.2.1.2.1⟩
  have hg : ld.2 24 < 2 ^ 12 := Nat.lt_of_lt_of_le hN.2.1.2.2.2.1 (Nat.pow_le_pow_right (by decide) hn.2)
  have hB := hC0.2.2.1
  have hc8 := hB.1
  refine go_aload_n (i := 0) (pc := 5) dX12_danger_5 rfl rfl ?_
  refine go_iload_n (i := 1) (pc := 6) dX12_danger_6 rfl rfl ?_
  refine go_callV ml_X12_284 mt_X12_isCarrier (pc := 7) dX12_danger_7 (c_X12_isCarrier hB.2.1 (by omega)) (by rfl) rfl (by rfl) (by decide) (by decide) rfl rfl (Nat.le_of_ble_eq_true rfl) (fun r σ' hp => ?_)
  obtain ⟨rfl, hσ⟩ := hp
  rw [hσ]
  clear hσ σ'
  dsimp only [zRet]
  refine go_if_eq 21 (pc := 10) dX12_danger_10 (by decide) (fun h10 => ?_) (fun h10 => ?_)
  · first | rw [zb_0d] at h10 | rw [zn_eq0 (by omega)] at h10 | rw [zi_eq0] at h10
    refine go_iconst (-1) (pc := 21) dX12_danger_21 (by decide) ?_
    refine go_ireturn (pc := 22) dX12_danger_22 rfl ?_
    rw [if_neg (by omega)]
    exact ⟨rfl, hC0, hG0⟩
  · first | rw [zb_0d] at h10 | rw [zn_eq0 (by omega)] at h10 | rw [zi_eq0] at h10
    refine go_aload_n (i := 0) (pc := 13) dX12_danger_13 rfl rfl ?_
    refine go_iload_n (i := 2) (pc := 14) dX12_danger_14 rfl rfl ?_
    refine go_callV ml_X12_276 mt_X12_isMile (pc := 15) dX12_danger_15 (c_X12_isMile hN.1 (by omega)) (by rfl) rfl (by rfl) (by decide) (by decide) rfl rfl (Nat.le_of_ble_eq_true rfl) (fun r σ' hp => ?_)
    obtain ⟨rfl, hσ⟩ := hp
    rw [hσ]
    clear hσ σ'
    dsimp only [zRet]
    refine go_if_ne 23 (pc := 18) dX12_danger_18 (by decide) (fun h18 => ?_) (fun h18 => ?_)
    · first | rw [zb_0d] at h18 | rw [zn_eq0 (by omega)] at h18 | rw [zi_eq0] at h18
      rw [if_pos (by omega)]
      have hmn : m.toInt < (ld.1 : Int) := by omega
      have hcn : c.toInt < (bd.1 : Int) := by omega
      have em1 := nI_of' (x := m) (by omega)
      generalize hqm1 : m.toInt.toNat = m1 at em1 ⊢
      subst em1
      have ec1 := nI_of' (x := c) (by omega)
      generalize hqc1 : c.toInt.toNat = c1 at ec1 ⊢
      subst ec1
      have hc : c1 < vC (vOf bd sk xs ld.1) := by show c1 < bd.1; omega
      have hm : m1 < vN (vOf bd sk xs ld.1) := by show m1 < ld.1; omega
      refine go_aload_n (i := 0) (pc := 23) dX12_danger_23 rfl rfl ?_
      refine go_aload_n (i := 0) (pc := 24) dX12_danger_24 rfl rfl ?_
      refine go_getr2 fl_X12_36 (pc := 25) dX12_danger_25 (by rfl) (by rfl) (by rfl) ?_
      refine go_iload_n (i := 1) (pc := 28) dX12_danger_28 rfl rfl ?_
      refine go_iload_n (i := 2) (pc := 29) dX12_danger_29 rfl rfl ?_
      refine go_callV ml_X12_268 mt_X12_dangerOf (pc := 30) dX12_danger_30 (c_X12_dangerOf (V := vOf bd sk xs ld.1) (j := 7) hC0.env hN.2.2 hN.2.1 rfl hc hm) (by rfl) rfl (by rfl) (by decide) (by decide) rfl rfl (Nat.le_of_ble_eq_true rfl) (fun r σ' hp => ?_)
      obtain ⟨rfl, hF⟩ := hp
      dsimp only [zRet]
      have hC1 := hC0.fr hF (by decide) (by decide)
      have hdl : ∀ x, dng (vOf bd sk xs ld.1) ld.2 c1 m1 = some x → x < 2 ^ 31 := fun x h => by have := dng_lt (hC0.env.vok hN.2.1) hN.2.1 h; omega
      refine go_istore_n (i := 3) (pc := 33) dX12_danger_33 rfl (by decide) ?_
      refine go_iload_n (i := 3) (pc := 34) dX12_danger_34 rfl rfl ?_
      refine go_if_ge 43 (pc := 35) dX12_danger_35 (by decide) (fun h35 => ?_) (fun h35 => ?_)
      · have h35 := Int32.not_lt.mpr h35
        rw [gM_neg hdl] at h35
        obtain ⟨x, hx⟩ := Option.ne_none_iff_exists'.mp h35
        rw [hx]
        refine go_iload_n (i := 3) (pc := 43) dX12_danger_43 rfl rfl ?_
        refine go_ireturn (pc := 44) dX12_danger_44 rfl ?_
        exact ⟨rfl, hC1, hG0.tr hF.1⟩
      · have h35 := Int32.not_le.mp h35
        rw [gM_neg hdl] at h35
        rw [h35]
        refine go_bipush (-2) (pc := 38) dX12_danger_38 (by decide) ?_
        refine go_goto 44 (pc := 40) dX12_danger_40 (by decide) ?_
        refine go_ireturn (pc := 44) dX12_danger_44 rfl ?_
        exact ⟨rfl, hC1, hG0.tr hF.1⟩
    · first | rw [zb_0d] at h18 | rw [zn_eq0 (by omega)] at h18 | rw [zi_eq0] at h18
      refine go_iconst (-1) (pc := 21) dX12_danger_21 (by decide) ?_
      refine go_ireturn (pc := 22) dX12_danger_22 rfl ?_
      rw [if_neg (by omega)]
      exact ⟨rfl, hC0, hG0⟩

