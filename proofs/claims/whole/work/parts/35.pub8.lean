/-- upper number of the chance that at least k of n are caught -/
def cgU (n k p : Nat) : Nat → Nat
  | 0 => 0
  | t + 1 => cgU n k p t + cho n (k + t) (k + t) * p ^ (k + t) * (10 - p) ^ (n - (k + t))
def cgC (n k p : Nat) : Nat := cgU n k p (n + 1 - k)
theorem cgU_b : ∀ n : Nat, n < 11 → ∀ k : Nat, k < 11 → ∀ p : Nat, p < 11 → ∀ t : Nat, t < 12 → cgU n k p t < 2 ^ 40 ∨ n + 1 < k + t := by decide +kernel

abbrev cgOK (n k p : Int32) : Prop := 1 ≤ n.toInt ∧ n.toInt ≤ 10 ∧ in0 k 10 ∧ in0 p 10

theorem c_X11_caught {E : zE} {σ : zT} {tx : Nat × (Nat → Nat)} {bd : Nat × (Nat → Nat) × (Nat → Nat)} {sk : Nat × (Nat → Nat)} {tw : Nat × (Nat → Nat) × (Nat → Nat)} {xs : List Nat} {ld : Nat × (Nat → Nat)} {pa sh : Nat × (Nat → Nat → Nat)} {ru : Nat × (Nat → Nat) × (Nat → Nat)} {to : Nat × (Nat → Int64)} {n k p : Int32} (hC : ClsIs σ tx bd sk tw xs ld pa sh ru to) : CalM E 1 yX11_caught cX11_caught 10 (some .int) [.ref (zA E 0 0), .int n, .int k, .int p] σ (fun r σ' => r = some (.int (if cgOK n k p then nI 0 else -1)) ∧ ClsIs σ' tx bd sk tw xs ld pa sh ru (if cgOK n k p then (2, ln2 (lN (cgC n.toInt.toNat k.toInt.toNat p.toInt.toNat / Nat.gcd (cgC n.toInt.toNat k.toInt.toNat p.toInt.toNat) (10 ^ n.toInt.toNat))) (lN (10 ^ n.toInt.toNat / Nat.gcd (cgC n.toInt.toNat k.toInt.toNat p.toInt.toNat) (10 ^ n.toInt.toNat)))) else to) ∧ Fr33 σ σ') := by
  refine cal_of_go (own := RX11) rfl (by decide +kernel) (Nat.le_of_ble_eq_true rfl) ?_
  have main : ∀ n1 k1 p1 : Nat, 1 ≤ n1 → n1 ≤ 10 → k1 ≤ 10 → p1 ≤ 10 → GoM E 1 RX11 cX11_caught 10 (some .int) (fun r σ' => r = some (.int (nI 0)) ∧ ClsIs σ' tx bd sk tw xs ld pa sh ru (2, ln2 (lN (cgC n1 k1 p1 / Nat.gcd (cgC n1 k1 p1) (10 ^ n1))) (lN (10 ^ n1 / Nat.gcd (cgC n1 k1 p1) (10 ^ n1)))) ∧ Fr33 σ σ') σ 33 [(0, .ref (zA E 0 0)), (1, .int (nI n1)), (2, .int (nI k1)), (3, .int (nI p1))] [] := by
    intro n1 k1 p1 hn0 hn1 hk1 hp1
    have h10 : 0 < 10 ^ n1 := Nat.pow_pos (by decide)
    have h10b := pow_b (b := 10) (e := n1) (by decide) (by omega)
    have loop : ∀ t : Nat, t ≤ n1 + 1 - k1 → GoM E 1 RX11 cX11_caught 10 (some .int) (fun r σ' => r = some (.int (nI 0)) ∧ ClsIs σ' tx bd sk tw xs ld pa sh ru (2, ln2 (lN (cgC n1 k1 p1 / Nat.gcd (cgC n1 k1 p1) (10 ^ n1))) (lN (10 ^ n1 / Nat.gcd (cgC n1 k1 p1) (10 ^ n1)))) ∧ Fr33 σ σ') σ 39 [(0, .ref (zA E 0 0)), (1, .int (nI n1)), (2, .int (nI k1)), (3, .int (nI p1)), (4, .long (lN (cgU n1 k1 p1 t))), (6, .int (nI (k1 + t)))] [] := by
      intro t
      induction hj : n1 + 1 - k1 - t using Nat.strongRecOn generalizing t with
      | ind z ih =>
        intro ht
        have hub := cgU_b n1 (by omega) k1 (by omega) p1 (by omega) t (by omega)
        refine go_iload (pc := 39) dX11_caught_39 rfl ?_
        refine go_iload_n (i := 1) (pc := 41) dX11_caught_41 rfl rfl ?_
        refine go_icmp_gt 81 (pc := 42) dX11_caught_42 (by decide) (fun h42 => ?_) (fun h42 => ?_)
        · first | rw [nI_ltI (by omega) (by omega)] at h42 | rw [zi_ltN (by omega)] at h42 | rw [zi_Nlt (by omega)] at h42 | rw [zi_lt] at h42
          have et : t = n1 + 1 - k1 := by omega
          have hub2 : cgC n1 k1 p1 < 2 ^ 40 := by
            unfold cgC
            rw [← et]
            rcases hub with h | h
            · exact h
            · have e0 : t = 0 := by omega
              rw [e0]
              exact (by decide : 0 < 2 ^ 40)
          rw [show cgU n1 k1 p1 t = cgC n1 k1 p1 by unfold cgC; rw [← et]]
          have hg0 : 0 < Nat.gcd (cgC n1 k1 p1) (10 ^ n1) := Nat.gcd_pos_of_pos_right _ h10
          have hg1 : Nat.gcd (cgC n1 k1 p1) (10 ^ n1) ≤ 10 ^ n1 := Nat.le_of_dvd h10 (Nat.gcd_dvd_right _ _)
          refine go_bipush (nI 10) (pc := 81) dX11_caught_81 (by decide) ?_
          refine go_iload_n (i := 1) (pc := 83) dX11_caught_83 rfl rfl ?_
          refine go_callS ml_X11_361 mt_X11_power (pc := 84) dX11_caught_84 (c_X11_power (by decide) (by omega)) (by decide) (by decide) rfl rfl (Nat.le_of_ble_eq_true rfl) (fun r σ' hp => ?_)
          obtain ⟨rfl, hσ⟩ := hp
          rw [hσ]
          clear hσ σ'
          dsimp only [zRet]
          refine go_lstore (pc := 87) dX11_caught_87 (by decide) ?_
          refine go_lload (pc := 89) dX11_caught_89 rfl ?_
          refine go_lload (pc := 91) dX11_caught_91 rfl ?_
          refine go_callS ml_X11_364 mt_X11_commonDivisor (pc := 93) dX11_caught_93 (c_X11_commonDivisor hub2 (Nat.lt_of_le_of_lt h10b (by decide))) (by decide) (by decide) rfl rfl (Nat.le_of_ble_eq_true rfl) (fun r σ' hp => ?_)
          obtain ⟨rfl, hσ⟩ := hp
          rw [hσ]
          clear hσ σ'
          dsimp only [zRet]
          refine go_lstore (pc := 96) dX11_caught_96 (by decide) ?_
          refine go_lload (pc := 98) dX11_caught_98 rfl ?_
          refine go_lconst (lN 0) (pc := 100) dX11_caught_100 (by decide) ?_
          refine go_lcmp (pc := 101) dX11_caught_101 ?_
          refine go_if_le 119 (pc := 102) dX11_caught_102 (by decide) (fun h102 => ?_) (fun h102 => ?_)
          · exfalso
            rw [lg_cmp_le, pk_lLE (by omega) (by decide)] at h102
            omega
          · refine go_lload (pc := 105) dX11_caught_105 rfl ?_
            refine go_lload (pc := 107) dX11_caught_107 rfl ?_
            refine go_ldiv (pc := 109) dX11_caught_109 (lN_ne (by omega) hg0) ?_
            rw [pk_lDiv (by omega) hg0 (by omega)]
            refine go_lstore (pc := 110) dX11_caught_110 (by decide) ?_
            refine go_lload (pc := 112) dX11_caught_112 rfl ?_
            refine go_lload (pc := 114) dX11_caught_114 rfl ?_
            refine go_ldiv (pc := 116) dX11_caught_116 (lN_ne (by omega) hg0) ?_
            rw [pk_lDiv (by omega) hg0 (by omega)]
            refine go_lstore (pc := 117) dX11_caught_117 (by decide) ?_
            refine go_aload_n (i := 0) (pc := 119) dX11_caught_119 rfl rfl ?_
            refine go_getr2 fl_X11_83 (pc := 120) dX11_caught_120 (by first | rfl | (apply zL_ci <;> assumption) | (apply zR_ci <;> assumption)) (by first | rfl | (apply zL_in <;> first | assumption | decide) | (apply zR_in <;> first | assumption | decide)) (by first | rfl | (apply zL_fr0 <;> assumption) | (apply zL_fr1 <;> assumption) | (apply zR_fr0 <;> assumption) | (apply zR_fr1 <;> assumption) | (apply zR_fr2 <;> assumption) | (apply zR_fr3 <;> assumption)) ?_
            refine go_lload (pc := 123) dX11_caught_123 rfl ?_
            refine go_lload (pc := 125) dX11_caught_125 rfl ?_
            refine go_callV ml_X11_223 mt_X9_two (pc := 127) dX11_caught_127 (c_X9_two) (by first | rfl | (apply zL_cq <;> assumption) | (apply zR_cq <;> assumption)) rfl (by first | rfl | (apply zL_in <;> first | assumption | decide) | (apply zR_in <;> first | assumption | decide)) (by decide) (by decide) rfl rfl (Nat.le_of_ble_eq_true rfl) (fun r σ' hp => ?_)
            obtain ⟨rfl, hT4, hf4⟩ := hp
            dsimp only [zRet]
            refine go_iconst (nI 0) (pc := 130) dX11_caught_130 (by decide) ?_
            refine go_ireturn (pc := 131) dX11_caught_131 rfl ?_
            exact ⟨rfl, hC.setTo (to' := (2, _)) hf4 hT4, Fr33.of hf4 (by simp)⟩
        · first | rw [nI_ltI (by omega) (by omega)] at h42 | rw [zi_ltN (by omega)] at h42 | rw [zi_Nlt (by omega)] at h42 | rw [zi_lt] at h42
          refine go_lload (pc := 45) dX11_caught_45 rfl ?_
          refine go_iload_n (i := 1) (pc := 47) dX11_caught_47 rfl rfl ?_
          refine go_iload (pc := 48) dX11_caught_48 rfl ?_
          refine go_callS ml_X11_357 mt_X11_choices (pc := 50) dX11_caught_50 (c_X11_choices hn1 (by omega)) (by decide) (by decide) rfl rfl (Nat.le_of_ble_eq_true rfl) (fun r σ' hp => ?_)
          obtain ⟨rfl, hσ⟩ := hp
          rw [hσ]
          clear hσ σ'
          dsimp only [zRet]
          refine go_iload_n (i := 3) (pc := 53) dX11_caught_53 rfl rfl ?_
          refine go_iload (pc := 54) dX11_caught_54 rfl ?_
          refine go_callS ml_X11_361 mt_X11_power (pc := 56) dX11_caught_56 (c_X11_power hp1 (by omega)) (by decide) (by decide) rfl rfl (Nat.le_of_ble_eq_true rfl) (fun r σ' hp => ?_)
          obtain ⟨rfl, hσ⟩ := hp
          rw [hσ]
          clear hσ σ'
          dsimp only [zRet]
          refine go_lmul (pc := 59) dX11_caught_59 ?_
          rw [lN_mul]
          refine go_bipush (nI 10) (pc := 60) dX11_caught_60 (by decide) ?_
          refine go_iload_n (i := 3) (pc := 62) dX11_caught_62 rfl rfl ?_
          first | with_reducible refine go_isubN (pc := 63) dX11_caught_63 (by omega) ?_ | refine go_isub (pc := 63) dX11_caught_63 ?_
          refine go_iload_n (i := 1) (pc := 64) dX11_caught_64 rfl rfl ?_
          refine go_iload (pc := 65) dX11_caught_65 rfl ?_
          first | with_reducible refine go_isubN (pc := 67) dX11_caught_67 (by omega) ?_ | refine go_isub (pc := 67) dX11_caught_67 ?_
          refine go_callS ml_X11_361 mt_X11_power (pc := 68) dX11_caught_68 (c_X11_power (by omega) (by omega)) (by decide) (by decide) rfl rfl (Nat.le_of_ble_eq_true rfl) (fun r σ' hp => ?_)
          obtain ⟨rfl, hσ⟩ := hp
          rw [hσ]
          clear hσ σ'
          dsimp only [zRet]
          refine go_lmul (pc := 71) dX11_caught_71 ?_
          rw [lN_mul]
          refine go_ladd (pc := 72) dX11_caught_72 ?_
          rw [lN_add]
          refine go_lstore (pc := 73) dX11_caught_73 (by decide) ?_
          refine go_iincN (pc := 75) dX11_caught_75 rfl (by decide) ?_
          refine go_goto 39 (pc := 78) dX11_caught_78 (by decide) ?_
          rw [Nat.add_assoc]
          exact ih (n1 + 1 - k1 - (t + 1)) (by omega) (t + 1) rfl (by omega)
        
    refine go_lconst (lN 0) (pc := 33) dX11_caught_33 (by decide) ?_
    refine go_lstore (pc := 34) dX11_caught_34 (by decide) ?_
    refine go_iload_n (i := 2) (pc := 36) dX11_caught_36 rfl rfl ?_
    refine go_istore (pc := 37) dX11_caught_37 (by decide) ?_
    exact loop 0 (by omega)
  refine go_iload_n (i := 1) (pc := 0) dX11_caught_0 rfl rfl ?_
  refine go_iconst (nI 1) (pc := 1) dX11_caught_1 (by decide) ?_
  refine go_icmp_lt 31 (pc := 2) dX11_caught_2 (by decide) (fun h2 => ?_) (fun h2 => ?_)
  · first | rw [nI_ltI (by omega) (by omega)] at h2 | rw [zi_ltN (by omega)] at h2 | rw [zi_Nlt (by omega)] at h2 | rw [zi_lt] at h2
    refine go_iconst (-1) (pc := 31) dX11_caught_31 (by decide) ?_
    refine go_ireturn (pc := 32) dX11_caught_32 rfl ?_
    rw [if_neg (by omega), if_neg (by omega)]
    exact ⟨rfl, hC, Fr33.rf⟩
  · first | rw [nI_ltI (by omega) (by omega)] at h2 | rw [zi_ltN (by omega)] at h2 | rw [zi_Nlt (by omega)] at h2 | rw [zi_lt] at h2
    refine go_iload_n (i := 1) (pc := 5) dX11_caught_5 rfl rfl ?_
    refine go_bipush (nI 10) (pc := 6) dX11_caught_6 (by decide) ?_
    refine go_icmp_gt 31 (pc := 8) dX11_caught_8 (by decide) (fun h8 => ?_) (fun h8 => ?_)
    · first | rw [nI_ltI (by omega) (by omega)] at h8 | rw [zi_ltN (by omega)] at h8 | rw [zi_Nlt (by omega)] at h8 | rw [zi_lt] at h8
      refine go_iconst (-1) (pc := 31) dX11_caught_31 (by decide) ?_
      refine go_ireturn (pc := 32) dX11_caught_32 rfl ?_
      rw [if_neg (by omega), if_neg (by omega)]
      exact ⟨rfl, hC, Fr33.rf⟩
    · first | rw [nI_ltI (by omega) (by omega)] at h8 | rw [zi_ltN (by omega)] at h8 | rw [zi_Nlt (by omega)] at h8 | rw [zi_lt] at h8
      refine go_iload_n (i := 2) (pc := 11) dX11_caught_11 rfl rfl ?_
      refine go_if_lt 31 (pc := 12) dX11_caught_12 (by decide) (fun h12 => ?_) (fun h12 => ?_)
      · first | rw [zb_0d] at h12 | rw [zn_lt0 (by omega)] at h12 | rw [zi_lt0] at h12
        refine go_iconst (-1) (pc := 31) dX11_caught_31 (by decide) ?_
        refine go_ireturn (pc := 32) dX11_caught_32 rfl ?_
        rw [if_neg (by omega), if_neg (by omega)]
        exact ⟨rfl, hC, Fr33.rf⟩
      · first | rw [zb_0d] at h12 | rw [zn_lt0 (by omega)] at h12 | rw [zi_lt0] at h12
        refine go_iload_n (i := 2) (pc := 15) dX11_caught_15 rfl rfl ?_
        refine go_bipush (nI 10) (pc := 16) dX11_caught_16 (by decide) ?_
        refine go_icmp_gt 31 (pc := 18) dX11_caught_18 (by decide) (fun h18 => ?_) (fun h18 => ?_)
        · first | rw [nI_ltI (by omega) (by omega)] at h18 | rw [zi_ltN (by omega)] at h18 | rw [zi_Nlt (by omega)] at h18 | rw [zi_lt] at h18
          refine go_iconst (-1) (pc := 31) dX11_caught_31 (by decide) ?_
          refine go_ireturn (pc := 32) dX11_caught_32 rfl ?_
          rw [if_neg (by omega), if_neg (by omega)]
          exact ⟨rfl, hC, Fr33.rf⟩
        · first | rw [nI_ltI (by omega) (by omega)] at h18 | rw [zi_ltN (by omega)] at h18 | rw [zi_Nlt (by omega)] at h18 | rw [zi_lt] at h18
          refine go_iload_n (i := 3) (pc := 21) dX11_caught_21 rfl rfl ?_
          refine go_if_lt 31 (pc := 22) dX11_caught_22 (by decide) (fun h22 => ?_) (fun h22 => ?_)
          · first | rw [zb_0d] at h22 | rw [zn_lt0 (by omega)] at h22 | rw [zi_lt0] at h22
            refine go_iconst (-1) (pc := 31) dX11_caught_31 (by decide) ?_
            refine go_ireturn (pc := 32) dX11_caught_32 rfl ?_
            rw [if_neg (by omega), if_neg (by omega)]
            exact ⟨rfl, hC, Fr33.rf⟩
          · first | rw [zb_0d] at h22 | rw [zn_lt0 (by omega)] at h22 | rw [zi_lt0] at h22
            refine go_iload_n (i := 3) (pc := 25) dX11_caught_25 rfl rfl ?_
            refine go_bipush (nI 10) (pc := 26) dX11_caught_26 (by decide) ?_
            refine go_icmp_le 33 (pc := 28) dX11_caught_28 (by decide) (fun h28 => ?_) (fun h28 => ?_)
            · first | rw [nI_leI (by omega) (by omega)] at h28 | rw [zi_leN (by omega)] at h28 | rw [zi_Nle (by omega)] at h28 | rw [zi_le] at h28
              rw [if_pos (by omega : cgOK n k p), if_pos (by omega : cgOK n k p)]
              have en1 := nI_of' (x := n) (by omega)
              generalize hqn1 : n.toInt.toNat = n1 at en1 ⊢
              have hn1 : 1 ≤ n1 ∧ n1 ≤ 10 := by omega
              subst en1
              have ek1 := nI_of' (x := k) (by omega)
              generalize hqk1 : k.toInt.toNat = k1 at ek1 ⊢
              have hk1 : k1 ≤ 10 := by omega
              subst ek1
              have ep1 := nI_of' (x := p) (by omega)
              generalize hqp1 : p.toInt.toNat = p1 at ep1 ⊢
              have hp1 : p1 ≤ 10 := by omega
              subst ep1
              exact main n1 k1 p1 hn1.1 hn1.2 hk1 hp1
            · first | rw [nI_leI (by omega) (by omega)] at h28 | rw [zi_leN (by omega)] at h28 | rw [zi_Nle (by omega)] at h28 | rw [zi_le] at h28
              refine go_iconst (-1) (pc := 31) dX11_caught_31 (by decide) ?_
              refine go_ireturn (pc := 32) dX11_caught_32 rfl ?_
              rw [if_neg (by omega), if_neg (by omega)]
              exact ⟨rfl, hC, Fr33.rf⟩

def lst (p v : Nat) : Nat → Nat
  | 0 => 0
  | j + 1 => if v * 10 ^ (j + 1) ≤ 100 * (10 - p) ^ (j + 1) then j + 1 else lst p v j
theorem lst_le (p v j : Nat) : lst p v j ≤ j := by
  induction j with
  | zero => exact Nat.le_refl _
  | succ j ih => unfold lst; split <;> omega

theorem c_X11_lasts {E : zE} {σ : zT} {p v : Int32}  : CalM E 1 yX11_lasts cX11_lasts 5 (some .int) [.ref (zA E 0 0), .int p, .int v] σ (fun r σ' => r = some (.int (if in0 p 10 ∧ in0 v 100 then nI (lst p.toInt.toNat v.toInt.toNat 12) else -1)) ∧ σ' = σ) := by
  refine cal_of_go (own := RX11) rfl (by decide +kernel) (Nat.le_of_ble_eq_true rfl) ?_
  have main : ∀ p1 v1 : Nat, p1 ≤ 10 → v1 ≤ 100 → GoM E 1 RX11 cX11_lasts 5 (some .int) (fun r σ' => r = some (.int (nI (lst p1 v1 12))) ∧ σ' = σ) σ 22 [(0, .ref (zA E 0 0)), (1, .int (nI p1)), (2, .int (nI v1))] [] := by
    intro p1 v1 hp1 hv1
    have loop : ∀ i : Nat, i ≤ 12 → GoM E 1 RX11 cX11_lasts 5 (some .int) (fun r σ' => r = some (.int (nI (lst p1 v1 12))) ∧ σ' = σ) σ 27 [(0, .ref (zA E 0 0)), (1, .int (nI p1)), (2, .int (nI v1)), (3, .int (nI (lst p1 v1 i))), (4, .int (nI (i + 1)))] [] := by
      intro i
      induction hj : 12 - i using Nat.strongRecOn generalizing i with
      | ind z ih =>
        intro hi
        refine go_iload (pc := 27) dX11_lasts_27 rfl ?_
        refine go_bipush (nI 12) (pc := 29) dX11_lasts_29 (by decide) ?_
        refine go_icmp_gt 70 (pc := 31) dX11_lasts_31 (by decide) (fun h31 => ?_) (fun h31 => ?_)
        · first | rw [nI_ltI (by omega) (by omega)] at h31 | rw [zi_ltN (by omega)] at h31 | rw [zi_Nlt (by omega)] at h31 | rw [zi_lt] at h31
          have ei : i = 12 := by omega
          subst ei
          refine go_iload_n (i := 3) (pc := 70) dX11_lasts_70 rfl rfl ?_
          refine go_ireturn (pc := 71) dX11_lasts_71 rfl ?_
          exact ⟨rfl, rfl⟩
        · first | rw [nI_ltI (by omega) (by omega)] at h31 | rw [zi_ltN (by omega)] at h31 | rw [zi_Nlt (by omega)] at h31 | rw [zi_lt] at h31
          have hb1 := pow_b (b := 10 - p1) (e := i + 1) (by omega) (by omega)
          have hb2 := pow_b (b := 10) (e := i + 1) (by decide) (by omega)
          have hb3 : v1 * 10 ^ (i + 1) ≤ 100 * 10 ^ 12 := Nat.mul_le_mul hv1 hb2
          refine go_ldc2 (100) kc_X11_368 (pc := 34) dX11_lasts_34 ?_
          rw [show (100 : Int64) = lN 100 from rfl]
          refine go_bipush (nI 10) (pc := 37) dX11_lasts_37 (by decide) ?_
          refine go_iload_n (i := 1) (pc := 39) dX11_lasts_39 rfl rfl ?_
          first | with_reducible refine go_isubN (pc := 40) dX11_lasts_40 (by omega) ?_ | refine go_isub (pc := 40) dX11_lasts_40 ?_
          refine go_iload (pc := 41) dX11_lasts_41 rfl ?_
          refine go_callS ml_X11_361 mt_X11_power (pc := 43) dX11_lasts_43 (c_X11_power (by omega) (by omega)) (by decide) (by decide) rfl rfl (Nat.le_of_ble_eq_true rfl) (fun r σ' hp => ?_)
          obtain ⟨rfl, hσ⟩ := hp
          rw [hσ]
          clear hσ σ'
          dsimp only [zRet]
          refine go_lmul (pc := 46) dX11_lasts_46 ?_
          rw [lN_mul]
          refine go_iload_n (i := 2) (pc := 47) dX11_lasts_47 rfl rfl ?_
          refine go_i2l (pc := 48) dX11_lasts_48 ?_
          rw [nI_l (by omega)]
          refine go_bipush (nI 10) (pc := 49) dX11_lasts_49 (by decide) ?_
          refine go_iload (pc := 51) dX11_lasts_51 rfl ?_
          refine go_callS ml_X11_361 mt_X11_power (pc := 53) dX11_lasts_53 (c_X11_power (by decide) (by omega)) (by decide) (by decide) rfl rfl (Nat.le_of_ble_eq_true rfl) (fun r σ' hp => ?_)
          obtain ⟨rfl, hσ⟩ := hp
          rw [hσ]
          clear hσ σ'
          dsimp only [zRet]
          refine go_lmul (pc := 56) dX11_lasts_56 ?_
          rw [lN_mul]
          refine go_lcmp (pc := 57) dX11_lasts_57 ?_
          refine go_if_lt 64 (pc := 58) dX11_lasts_58 (by decide) (fun h58 => ?_) (fun h58 => ?_)
          · rw [lg_cmp_lt, pk_lLT (by omega) (by omega)] at h58
            have es : lst p1 v1 (i + 1) = lst p1 v1 i := by rw [lst, if_neg (by omega)]
            refine go_iincN (pc := 64) dX11_lasts_64 rfl (by decide) ?_
            refine go_goto 27 (pc := 67) dX11_lasts_67 (by decide) ?_
            have ih2 := ih (12 - (i + 1)) (by omega) (i + 1) rfl (by omega)
            rw [es] at ih2
            exact ih2
          · rw [lg_cmp_lt, pk_lLT (by omega) (by omega)] at h58
            have es : lst p1 v1 (i + 1) = i + 1 := by rw [lst, if_pos (by omega)]
            refine go_iload (pc := 61) dX11_lasts_61 rfl ?_
            refine go_istore_n (i := 3) (pc := 63) dX11_lasts_63 rfl (by decide) ?_
            refine go_iincN (pc := 64) dX11_lasts_64 rfl (by decide) ?_
            refine go_goto 27 (pc := 67) dX11_lasts_67 (by decide) ?_
            have ih2 := ih (12 - (i + 1)) (by omega) (i + 1) rfl (by omega)
            rw [es] at ih2
            exact ih2
        
    refine go_iconst (nI 0) (pc := 22) dX11_lasts_22 (by decide) ?_
    refine go_istore_n (i := 3) (pc := 23) dX11_lasts_23 rfl (by decide) ?_
    refine go_iconst (nI 1) (pc := 24) dX11_lasts_24 (by decide) ?_
    refine go_istore (pc := 25) dX11_lasts_25 (by decide) ?_
    exact loop 0 (by omega)
  refine go_iload_n (i := 1) (pc := 0) dX11_lasts_0 rfl rfl ?_
  refine go_if_lt 20 (pc := 1) dX11_lasts_1 (by decide) (fun h1 => ?_) (fun h1 => ?_)
  · first | rw [zb_0d] at h1 | rw [zn_lt0 (by omega)] at h1 | rw [zi_lt0] at h1
    refine go_iconst (-1) (pc := 20) dX11_lasts_20 (by decide) ?_
    refine go_ireturn (pc := 21) dX11_lasts_21 rfl ?_
    rw [if_neg (by omega)]
    exact ⟨rfl, rfl⟩
  · first | rw [zb_0d] at h1 | rw [zn_lt0 (by omega)] at h1 | rw [zi_lt0] at h1
    refine go_iload_n (i := 1) (pc := 4) dX11_lasts_4 rfl rfl ?_
    refine go_bipush (nI 10) (pc := 5) dX11_lasts_5 (by decide) ?_
    refine go_icmp_gt 20 (pc := 7) dX11_lasts_7 (by decide) (fun h7 => ?_) (fun h7 => ?_)
    · first | rw [nI_ltI (by omega) (by omega)] at h7 | rw [zi_ltN (by omega)] at h7 | rw [zi_Nlt (by omega)] at h7 | rw [zi_lt] at h7
      refine go_iconst (-1) (pc := 20) dX11_lasts_20 (by decide) ?_
      refine go_ireturn (pc := 21) dX11_lasts_21 rfl ?_
      rw [if_neg (by omega)]
      exact ⟨rfl, rfl⟩
    · first | rw [nI_ltI (by omega) (by omega)] at h7 | rw [zi_ltN (by omega)] at h7 | rw [zi_Nlt (by omega)] at h7 | rw [zi_lt] at h7
      refine go_iload_n (i := 2) (pc := 10) dX11_lasts_10 rfl rfl ?_
      refine go_if_lt 20 (pc := 11) dX11_lasts_11 (by decide) (fun h11 => ?_) (fun h11 => ?_)
      · first | rw [zb_0d] at h11 | rw [zn_lt0 (by omega)] at h11 | rw [zi_lt0] at h11
        refine go_iconst (-1) (pc := 20) dX11_lasts_20 (by decide) ?_
        refine go_ireturn (pc := 21) dX11_lasts_21 rfl ?_
        rw [if_neg (by omega)]
        exact ⟨rfl, rfl⟩
      · first | rw [zb_0d] at h11 | rw [zn_lt0 (by omega)] at h11 | rw [zi_lt0] at h11
        refine go_iload_n (i := 2) (pc := 14) dX11_lasts_14 rfl rfl ?_
        refine go_bipush (nI 100) (pc := 15) dX11_lasts_15 (by decide) ?_
        refine go_icmp_le 22 (pc := 17) dX11_lasts_17 (by decide) (fun h17 => ?_) (fun h17 => ?_)
        · first | rw [nI_leI (by omega) (by omega)] at h17 | rw [zi_leN (by omega)] at h17 | rw [zi_Nle (by omega)] at h17 | rw [zi_le] at h17
          rw [if_pos (by omega : in0 p 10 ∧ in0 v 100)]
          have ep1 := nI_of' (x := p) (by omega)
          generalize hqp1 : p.toInt.toNat = p1 at ep1 ⊢
          have hp1 : p1 ≤ 10 := by omega
          subst ep1
          have ev1 := nI_of' (x := v) (by omega)
          generalize hqv1 : v.toInt.toNat = v1 at ev1 ⊢
          have hv1 : v1 ≤ 100 := by omega
          subst ev1
          exact main p1 v1 hp1 hv1
        · first | rw [nI_leI (by omega) (by omega)] at h17 | rw [zi_leN (by omega)] at h17 | rw [zi_Nle (by omega)] at h17 | rw [zi_le] at h17
          refine go_iconst (-1) (pc := 20) dX11_lasts_20 (by decide) ?_
          refine go_ireturn (pc := 21) dX11_lasts_21 rfl ?_
          rw [if_neg (by omega)]
          exact ⟨rfl, rfl⟩

def gH (x y r : Nat) : Nat := if x ≤ y then y else r
def cH (x y v : Nat) : Int32 := if x ≤ y then nI v - nI y else nI 0
def rstL (x y v r : Nat) : Nat → Bool
  | 0 => true
  | z + 1 => rstL x y v r z && (decide (gH z y r ≤ gH x y r) && decide (cH x z v ≤ cH x y v))
theorem rstL_f {x y v r z : Nat} (h : rstL x y v r z = false) : ∀ k, rstL x y v r (z + k) = false := by
  intro k
  induction k with
  | zero => exact h
  | succ k ih => rw [← Nat.add_assoc, rstL, ih]; rfl
def rst (x y v r : Nat) : Bool := rstL x y v r 10
/-- pairs 10 x + y ahead of t at which both rest: how many, what is told -/
def rsM (v r : Nat) : Nat → Nat
  | 0 => 0
  | t + 1 => if rst (t / 10) (t % 10) v r then rsM v r t + 1 else rsM v r t
def rsT (v r : Nat) : Nat → Nat × (Nat → Int64)
  | 0 => (0, fun _ => 0)
  | t + 1 => if rst (t / 10) (t % 10) v r = true ∧ rsM v r t = 0 then (2, ln2 (lN (t / 10)) (lN (t % 10))) else rsT v r t
theorem rsM_le (v r t : Nat) : rsM v r t ≤ t := by
  induction t with
  | zero => exact Nat.le_refl _
  | succ t ih => unfold rsM; split <;> omega

theorem c_X11_guardHas {E : zE} {σ : zT} {x y v : Nat} (hx : x < 100) (hy : y < 100) (hv : v < 100) : CalM E 0 yX11_guardHas cX11_guardHas 3 (some .int) [.int (nI x), .int (nI y), .int (nI v)] σ (fun r σ' => r = some (.int (nI (gH x y v))) ∧ σ' = σ) := by
  refine cal_of_go (own := RX11) rfl (by decide +kernel) (Nat.le_of_ble_eq_true rfl) ?_
  refine go_iload_n (i := 1) (pc := 0) dX11_guardHas_0 rfl rfl ?_
  refine go_iload_n (i := 0) (pc := 1) dX11_guardHas_1 rfl rfl ?_
  refine go_icmp_lt 9 (pc := 2) dX11_guardHas_2 (by decide) (fun h2 => ?_) (fun h2 => ?_)
  · first | rw [nI_ltI (by omega) (by omega)] at h2 | rw [zi_ltN (by omega)] at h2 | rw [zi_Nlt (by omega)] at h2 | rw [zi_lt] at h2
    refine go_iload_n (i := 2) (pc := 9) dX11_guardHas_9 rfl rfl ?_
    refine go_ireturn (pc := 10) dX11_guardHas_10 rfl ?_
    unfold gH
    first
      | (rw [if_pos (by omega)]; exact ⟨rfl, rfl⟩)
      | (rw [if_neg (by omega)]; exact ⟨rfl, rfl⟩)
  · first | rw [nI_ltI (by omega) (by omega)] at h2 | rw [zi_ltN (by omega)] at h2 | rw [zi_Nlt (by omega)] at h2 | rw [zi_lt] at h2
    refine go_iload_n (i := 1) (pc := 5) dX11_guardHas_5 rfl rfl ?_
    refine go_goto 10 (pc := 6) dX11_guardHas_6 (by decide) ?_
    refine go_ireturn (pc := 10) dX11_guardHas_10 rfl ?_
    unfold gH
    first
      | (rw [if_pos (by omega)]; exact ⟨rfl, rfl⟩)
      | (rw [if_neg (by omega)]; exact ⟨rfl, rfl⟩)

theorem c_X11_carrierHas {E : zE} {σ : zT} {x y v : Nat} (hx : x < 100) (hy : y < 100) (hv : v < 100) : CalM E 0 yX11_carrierHas cX11_carrierHas 3 (some .int) [.int (nI x), .int (nI y), .int (nI v)] σ (fun r σ' => r = some (.int (cH x y v)) ∧ σ' = σ) := by
  refine cal_of_go (own := RX11) rfl (by decide +kernel) (Nat.le_of_ble_eq_true rfl) ?_
  refine go_iload_n (i := 1) (pc := 0) dX11_carrierHas_0 rfl rfl ?_
  refine go_iload_n (i := 0) (pc := 1) dX11_carrierHas_1 rfl rfl ?_
  refine go_icmp_lt 11 (pc := 2) dX11_carrierHas_2 (by decide) (fun h2 => ?_) (fun h2 => ?_)
  · first | rw [nI_ltI (by omega) (by omega)] at h2 | rw [zi_ltN (by omega)] at h2 | rw [zi_Nlt (by omega)] at h2 | rw [zi_lt] at h2
    refine go_iconst (nI 0) (pc := 11) dX11_carrierHas_11 (by decide) ?_
    refine go_ireturn (pc := 12) dX11_carrierHas_12 rfl ?_
    unfold cH
    first
      | (rw [if_pos (by omega)]; exact ⟨rfl, rfl⟩)
      | (rw [if_neg (by omega)]; exact ⟨rfl, rfl⟩)
  · first | rw [nI_ltI (by omega) (by omega)] at h2 | rw [zi_ltN (by omega)] at h2 | rw [zi_Nlt (by omega)] at h2 | rw [zi_lt] at h2
    refine go_iload_n (i := 2) (pc := 5) dX11_carrierHas_5 rfl rfl ?_
    refine go_iload_n (i := 1) (pc := 6) dX11_carrierHas_6 rfl rfl ?_
    refine go_isub (pc := 7) dX11_carrierHas_7 ?_
    refine go_goto 12 (pc := 8) dX11_carrierHas_8 (by decide) ?_
    refine go_ireturn (pc := 12) dX11_carrierHas_12 rfl ?_
    unfold cH
    first
      | (rw [if_pos (by omega)]; exact ⟨rfl, rfl⟩)
      | (rw [if_neg (by omega)]; exact ⟨rfl, rfl⟩)

theorem c_X11_isRest {E : zE} {σ : zT} {x y v w : Nat} (hx : x < 10) (hy : y < 10) (hv : v < 100) (hw : w < 10) : CalM E 1 yX11_isRest cX11_isRest 5 (some .boolean) [.int (nI x), .int (nI y), .int (nI v), .int (nI w)] σ (fun r σ' => r = some (.int (zb (rst x y v w))) ∧ σ' = σ) := by
  refine cal_of_go (own := RX11) rfl (by decide +kernel) (Nat.le_of_ble_eq_true rfl) ?_
  have loop : ∀ i : Nat, i ≤ 10 → rstL x y v w i = true → GoM E 1 RX11 cX11_isRest 5 (some .boolean) (fun r σ' => r = some (.int (zb (rst x y v w))) ∧ σ' = σ) σ 3 [(0, .int (nI x)), (1, .int (nI y)), (2, .int (nI v)), (3, .int (nI w)), (4, .int (nI i))] [] := by
    intro i
    induction hj : 10 - i using Nat.strongRecOn generalizing i with
    | ind z ih =>
      intro hi ht
      have hg1 : gH i y w < 100 := by unfold gH; split <;> omega
      have hg2 : gH x y w < 100 := by unfold gH; split <;> omega
      refine go_iload (pc := 3) dX11_isRest_3 rfl ?_
      refine go_bipush (nI 9) (pc := 5) dX11_isRest_5 (by decide) ?_
      refine go_icmp_gt 50 (pc := 7) dX11_isRest_7 (by decide) (fun h7 => ?_) (fun h7 => ?_)
      · first | rw [nI_ltI (by omega) (by omega)] at h7 | rw [zi_ltN (by omega)] at h7 | rw [zi_Nlt (by omega)] at h7 | rw [zi_lt] at h7
        have ei : i = 10 := by omega
        subst ei
        refine go_iconst (nI 1) (pc := 50) dX11_isRest_50 (by decide) ?_
        refine go_zreturn (pc := 51) dX11_isRest_51 rfl rfl ?_
        exact ⟨by unfold rst; rw [ht]; rfl, rfl⟩
      · first | rw [nI_ltI (by omega) (by omega)] at h7 | rw [zi_ltN (by omega)] at h7 | rw [zi_Nlt (by omega)] at h7 | rw [zi_lt] at h7
        refine go_iload (pc := 10) dX11_isRest_10 rfl ?_
        refine go_iload_n (i := 1) (pc := 12) dX11_isRest_12 rfl rfl ?_
        refine go_iload_n (i := 3) (pc := 13) dX11_isRest_13 rfl rfl ?_
        refine go_callS ml_X11_396 mt_X11_guardHas (pc := 14) dX11_isRest_14 (c_X11_guardHas (by omega) (by omega) (by omega)) (by decide) (by decide) rfl rfl (Nat.le_of_ble_eq_true rfl) (fun r σ' hp => ?_)
        obtain ⟨rfl, hσ⟩ := hp
        rw [hσ]
        clear hσ σ'
        dsimp only [zRet]
        refine go_iload_n (i := 0) (pc := 17) dX11_isRest_17 rfl rfl ?_
        refine go_iload_n (i := 1) (pc := 18) dX11_isRest_18 rfl rfl ?_
        refine go_iload_n (i := 3) (pc := 19) dX11_isRest_19 rfl rfl ?_
        refine go_callS ml_X11_396 mt_X11_guardHas (pc := 20) dX11_isRest_20 (c_X11_guardHas (by omega) (by omega) (by omega)) (by decide) (by decide) rfl rfl (Nat.le_of_ble_eq_true rfl) (fun r σ' hp => ?_)
        obtain ⟨rfl, hσ⟩ := hp
        rw [hσ]
        clear hσ σ'
        dsimp only [zRet]
        refine go_icmp_gt 42 (pc := 23) dX11_isRest_23 (by decide) (fun h23 => ?_) (fun h23 => ?_)
        · first | rw [nI_ltI (by omega) (by omega)] at h23 | rw [zi_ltN (by omega)] at h23 | rw [zi_Nlt (by omega)] at h23 | rw [zi_lt] at h23
          have es : rstL x y v w (i + 1) = false := by rw [rstL, ht, decide_eq_false (by omega : ¬ gH i y w ≤ gH x y w)]; rfl
          have ef := rstL_f es (10 - (i + 1))
          rw [show i + 1 + (10 - (i + 1)) = 10 by omega] at ef
          refine go_iconst (nI 0) (pc := 42) dX11_isRest_42 (by decide) ?_
          refine go_zreturn (pc := 43) dX11_isRest_43 rfl rfl ?_
          exact ⟨by unfold rst; rw [ef]; rfl, rfl⟩
        · first | rw [nI_ltI (by omega) (by omega)] at h23 | rw [zi_ltN (by omega)] at h23 | rw [zi_Nlt (by omega)] at h23 | rw [zi_lt] at h23
          refine go_iload_n (i := 0) (pc := 26) dX11_isRest_26 rfl rfl ?_
          refine go_iload (pc := 27) dX11_isRest_27 rfl ?_
          refine go_iload_n (i := 2) (pc := 29) dX11_isRest_29 rfl rfl ?_
          refine go_callS ml_X11_399 mt_X11_carrierHas (pc := 30) dX11_isRest_30 (c_X11_carrierHas (by omega) (by omega) (by omega)) (by decide) (by decide) rfl rfl (Nat.le_of_ble_eq_true rfl) (fun r σ' hp => ?_)
          obtain ⟨rfl, hσ⟩ := hp
          rw [hσ]
          clear hσ σ'
          dsimp only [zRet]
          refine go_iload_n (i := 0) (pc := 33) dX11_isRest_33 rfl rfl ?_
          refine go_iload_n (i := 1) (pc := 34) dX11_isRest_34 rfl rfl ?_
          refine go_iload_n (i := 2) (pc := 35) dX11_isRest_35 rfl rfl ?_
          refine go_callS ml_X11_399 mt_X11_carrierHas (pc := 36) dX11_isRest_36 (c_X11_carrierHas (by omega) (by omega) (by omega)) (by decide) (by decide) rfl rfl (Nat.le_of_ble_eq_true rfl) (fun r σ' hp => ?_)
          obtain ⟨rfl, hσ⟩ := hp
          rw [hσ]
          clear hσ σ'
          dsimp only [zRet]
          refine go_icmp_le 44 (pc := 39) dX11_isRest_39 (by decide) (fun h39 => ?_) (fun h39 => ?_)
          · have es : rstL x y v w (i + 1) = true := by rw [rstL, ht, decide_eq_true (by omega : gH i y w ≤ gH x y w), decide_eq_true h39]; rfl
            refine go_iincN (pc := 44) dX11_isRest_44 rfl (by decide) ?_
            refine go_goto 3 (pc := 47) dX11_isRest_47 (by decide) ?_
            exact ih (10 - (i + 1)) (by omega) (i + 1) rfl (by omega) es
          · have es : rstL x y v w (i + 1) = false := by rw [rstL, ht, decide_eq_true (by omega : gH i y w ≤ gH x y w), decide_eq_false h39]; rfl
            have ef := rstL_f es (10 - (i + 1))
            rw [show i + 1 + (10 - (i + 1)) = 10 by omega] at ef
            refine go_iconst (nI 0) (pc := 42) dX11_isRest_42 (by decide) ?_
            refine go_zreturn (pc := 43) dX11_isRest_43 rfl rfl ?_
            exact ⟨by unfold rst; rw [ef]; rfl, rfl⟩
  refine go_iconst (nI 0) (pc := 0) dX11_isRest_0 (by decide) ?_
  refine go_istore (pc := 1) dX11_isRest_1 (by decide) ?_
  exact loop 0 (by omega) rfl

theorem c_X11_rests {E : zE} {σ : zT} {tx : Nat × (Nat → Nat)} {bd : Nat × (Nat → Nat) × (Nat → Nat)} {sk : Nat × (Nat → Nat)} {tw : Nat × (Nat → Nat) × (Nat → Nat)} {xs : List Nat} {ld : Nat × (Nat → Nat)} {pa sh : Nat × (Nat → Nat → Nat)} {ru : Nat × (Nat → Nat) × (Nat → Nat)} {to : Nat × (Nat → Int64)} {v w : Int32} (hC : ClsIs σ tx bd sk tw xs ld pa sh ru to) : CalM E 2 yX11_rests cX11_rests 6 (some .int) [.ref (zA E 0 0), .int v, .int w] σ (fun r σ' => r = some (.int (if (in0 v 20 ∧ in0 w 9) then nI (rsM v.toInt.toNat w.toInt.toNat 100) else -1)) ∧ ClsIs σ' tx bd sk tw xs ld pa sh ru (if (in0 v 20 ∧ in0 w 9) then rsT v.toInt.toNat w.toInt.toNat 100 else to) ∧ Fr33 σ σ') := by
  refine cal_of_go (own := RX11) rfl (by decide +kernel) (Nat.le_of_ble_eq_true rfl) ?_
  have main : ∀ v1 w1 : Nat, v1 ≤ 20 → w1 ≤ 9 → GoM E 2 RX11 cX11_rests 6 (some .int) (fun r σ' => r = some (.int (nI (rsM v1 w1 100))) ∧ ClsIs σ' tx bd sk tw xs ld pa sh ru (rsT v1 w1 100) ∧ Fr33 σ σ') σ 22 [(0, .ref (zA E 0 0)), (1, .int (nI v1)), (2, .int (nI w1))] [] := by
    intro v1 w1 hv1 hw1
    have outer : ∀ (x : Nat) (τ : zT), x ≤ 10 → ClsIs τ tx bd sk tw xs ld pa sh ru (rsT v1 w1 (10 * x)) → Fr33 σ τ → GoM E 2 RX11 cX11_rests 6 (some .int) (fun r σ' => r = some (.int (nI (rsM v1 w1 100))) ∧ ClsIs σ' tx bd sk tw xs ld pa sh ru (rsT v1 w1 100) ∧ Fr33 σ σ') τ 34 [(0, .ref (zA E 0 0)), (1, .int (nI v1)), (2, .int (nI w1)), (3, .int (nI (rsM v1 w1 (10 * x)))), (4, .int (nI x))] [] := by
      intro x
      induction hj : 10 - x using Nat.strongRecOn generalizing x with
      | ind z ih =>
        intro τ hx hCt hF
        have inner : x < 10 → ∀ (y : Nat) (τ : zT), y ≤ 10 → ClsIs τ tx bd sk tw xs ld pa sh ru (rsT v1 w1 (10 * x + y)) → Fr33 σ τ → GoM E 2 RX11 cX11_rests 6 (some .int) (fun r σ' => r = some (.int (nI (rsM v1 w1 100))) ∧ ClsIs σ' tx bd sk tw xs ld pa sh ru (rsT v1 w1 100) ∧ Fr33 σ σ') τ 44 [(0, .ref (zA E 0 0)), (1, .int (nI v1)), (2, .int (nI w1)), (3, .int (nI (rsM v1 w1 (10 * x + y)))), (4, .int (nI x)), (5, .int (nI y))] [] := by
          intro hx10 y
          induction hj2 : 10 - y using Nat.strongRecOn generalizing y with
          | ind z2 ih2 =>
            intro τ hy hCt hF
            have hml := rsM_le v1 w1 (10 * x + y)
            refine go_iload (pc := 44) dX11_rests_44 rfl ?_
            refine go_bipush (nI 9) (pc := 46) dX11_rests_46 (by decide) ?_
            refine go_icmp_gt 92 (pc := 48) dX11_rests_48 (by decide) (fun h48 => ?_) (fun h48 => ?_)
            · first | rw [nI_ltI (by omega) (by omega)] at h48 | rw [zi_ltN (by omega)] at h48 | rw [zi_Nlt (by omega)] at h48 | rw [zi_lt] at h48
              have ey : y = 10 := by omega
              subst ey
              refine go_iincN (pc := 92) dX11_rests_92 rfl (by decide) ?_
              refine go_goto 34 (pc := 95) dX11_rests_95 (by decide) ?_
              refine go_drop [0, 1, 2, 3, 4] rfl ?_
              exact ih (10 - (x + 1)) (by omega) (x + 1) rfl _ (by omega) hCt hF
            · first | rw [nI_ltI (by omega) (by omega)] at h48 | rw [zi_ltN (by omega)] at h48 | rw [zi_Nlt (by omega)] at h48 | rw [zi_lt] at h48
              refine go_iload (pc := 51) dX11_rests_51 rfl ?_
              refine go_iload (pc := 53) dX11_rests_53 rfl ?_
              refine go_iload_n (i := 1) (pc := 55) dX11_rests_55 rfl rfl ?_
              refine go_iload_n (i := 2) (pc := 56) dX11_rests_56 rfl rfl ?_
              refine go_callS ml_X11_392 mt_X11_isRest (pc := 57) dX11_rests_57 (c_X11_isRest (by omega) (by omega) (by omega) (by omega)) (by decide) (by decide) rfl rfl (Nat.le_of_ble_eq_true rfl) (fun r σ' hp => ?_)
              obtain ⟨rfl, hσ⟩ := hp
              rw [hσ]
              clear hσ σ'
              dsimp only [zRet]
              refine go_if_ne 66 (pc := 60) dX11_rests_60 (by decide) (fun h60 => ?_) (fun h60 => ?_)
              · rw [zb_0] at h60
                have hr : rst x y v1 w1 = true := by simpa using h60
                have eq1 : (10 * x + y) / 10 = x := by omega
                have eq2 : (10 * x + y) % 10 = y := by omega
                have eM : rsM v1 w1 (10 * x + (y + 1)) = rsM v1 w1 (10 * x + y) + 1 := by rw [← Nat.add_assoc, rsM, if_pos (by rw [eq1, eq2]; exact hr)]
                refine go_iload_n (i := 3) (pc := 66) dX11_rests_66 rfl rfl ?_
                refine go_if_ne 83 (pc := 67) dX11_rests_67 (by decide) (fun h67 => ?_) (fun h67 => ?_)
                · first | rw [zb_0d] at h67 | rw [zn_eq0 (by omega)] at h67 | rw [zi_eq0] at h67
                  have eT : rsT v1 w1 (10 * x + (y + 1)) = rsT v1 w1 (10 * x + y) := by rw [← Nat.add_assoc, rsT, if_neg (fun q => by omega)]
                  have hC2 := hCt
                  rw [← eT] at hC2
                  have hF2 := hF
                  refine go_iincN (pc := 83) dX11_rests_83 rfl (by decide) ?_
                  refine go_iincN (pc := 86) dX11_rests_86 rfl (by decide) ?_
                  refine go_goto 44 (pc := 89) dX11_rests_89 (by decide) ?_
                  rw [← eM]
                  exact ih2 (10 - (y + 1)) (by omega) (y + 1) rfl _ (by omega) hC2 hF2
                · first | rw [zb_0d] at h67 | rw [zn_eq0 (by omega)] at h67 | rw [zi_eq0] at h67
                  have eT : rsT v1 w1 (10 * x + (y + 1)) = (2, ln2 (lN x) (lN y)) := by rw [← Nat.add_assoc, rsT, if_pos (by rw [eq1, eq2]; exact ⟨hr, by omega⟩), eq1, eq2]
                  refine go_aload_n (i := 0) (pc := 70) dX11_rests_70 rfl rfl ?_
                  refine go_getr2 fl_X11_83 (pc := 71) dX11_rests_71 (by first | rfl | (apply zL_ci <;> assumption) | (apply zR_ci <;> assumption)) (by first | rfl | (apply zL_in <;> first | assumption | decide) | (apply zR_in <;> first | assumption | decide)) (by first | rfl | (apply zL_fr0 <;> assumption) | (apply zL_fr1 <;> assumption) | (apply zR_fr0 <;> assumption) | (apply zR_fr1 <;> assumption) | (apply zR_fr2 <;> assumption) | (apply zR_fr3 <;> assumption)) ?_
                  refine go_iload (pc := 74) dX11_rests_74 rfl ?_
                  refine go_i2l (pc := 76) dX11_rests_76 ?_
                  rw [nI_l (by omega)]
                  refine go_iload (pc := 77) dX11_rests_77 rfl ?_
                  refine go_i2l (pc := 79) dX11_rests_79 ?_
                  rw [nI_l (by omega)]
                  refine go_callV ml_X11_223 mt_X9_two (pc := 80) dX11_rests_80 (c_X9_two) (by first | rfl | (apply zL_cq <;> assumption) | (apply zR_cq <;> assumption)) rfl (by first | rfl | (apply zL_in <;> first | assumption | decide) | (apply zR_in <;> first | assumption | decide)) (by decide) (by decide) rfl rfl (Nat.le_of_ble_eq_true rfl) (fun r σ' hp => ?_)
                  obtain ⟨rfl, hT4, hf4⟩ := hp
                  dsimp only [zRet]
                  have hC2 := hCt.setTo (to' := (2, ln2 (lN x) (lN y))) hf4 hT4
                  have hF2 := hF.tr (Fr33.of hf4 (by simp))
                  rw [← eT] at hC2
                  refine go_iincN (pc := 83) dX11_rests_83 rfl (by decide) ?_
                  refine go_iincN (pc := 86) dX11_rests_86 rfl (by decide) ?_
                  refine go_goto 44 (pc := 89) dX11_rests_89 (by decide) ?_
                  rw [← eM]
                  exact ih2 (10 - (y + 1)) (by omega) (y + 1) rfl _ (by omega) hC2 hF2
              · rw [zb_0] at h60
                have eq1 : (10 * x + y) / 10 = x := by omega
                have eq2 : (10 * x + y) % 10 = y := by omega
                have eM : rsM v1 w1 (10 * x + (y + 1)) = rsM v1 w1 (10 * x + y) := by rw [← Nat.add_assoc, rsM, if_neg (by rw [eq1, eq2, h60]; decide)]
                have eT : rsT v1 w1 (10 * x + (y + 1)) = rsT v1 w1 (10 * x + y) := by rw [← Nat.add_assoc, rsT, if_neg (by rw [eq1, eq2, h60]; simp)]
                have hC2 := hCt
                rw [← eT] at hC2
                have hF2 := hF
                refine go_goto 86 (pc := 63) dX11_rests_63 (by decide) ?_
                refine go_iincN (pc := 86) dX11_rests_86 rfl (by decide) ?_
                refine go_goto 44 (pc := 89) dX11_rests_89 (by decide) ?_
                rw [← eM]
                exact ih2 (10 - (y + 1)) (by omega) (y + 1) rfl _ (by omega) hC2 hF2
            
        refine go_iload (pc := 34) dX11_rests_34 rfl ?_
        refine go_bipush (nI 9) (pc := 36) dX11_rests_36 (by decide) ?_
        refine go_icmp_gt 98 (pc := 38) dX11_rests_38 (by decide) (fun h38 => ?_) (fun h38 => ?_)
        · first | rw [nI_ltI (by omega) (by omega)] at h38 | rw [zi_ltN (by omega)] at h38 | rw [zi_Nlt (by omega)] at h38 | rw [zi_lt] at h38
          have ex : x = 10 := by omega
          subst ex
          refine go_iload_n (i := 3) (pc := 98) dX11_rests_98 rfl rfl ?_
          refine go_ireturn (pc := 99) dX11_rests_99 rfl ?_
          exact ⟨rfl, hCt, hF⟩
        · first | rw [nI_ltI (by omega) (by omega)] at h38 | rw [zi_ltN (by omega)] at h38 | rw [zi_Nlt (by omega)] at h38 | rw [zi_lt] at h38
          refine go_iconst (nI 0) (pc := 41) dX11_rests_41 (by decide) ?_
          refine go_istore (pc := 42) dX11_rests_42 (by decide) ?_
          exact inner (by omega) 0 _ (by omega) hCt hF
    refine go_iconst (nI 0) (pc := 22) dX11_rests_22 (by decide) ?_
    refine go_istore_n (i := 3) (pc := 23) dX11_rests_23 rfl (by decide) ?_
    refine go_aload_n (i := 0) (pc := 24) dX11_rests_24 rfl rfl ?_
    refine go_getr2 fl_X11_83 (pc := 25) dX11_rests_25 (by first | rfl | (apply zL_ci <;> assumption) | (apply zR_ci <;> assumption)) (by first | rfl | (apply zL_in <;> first | assumption | decide) | (apply zR_in <;> first | assumption | decide)) (by first | rfl | (apply zL_fr0 <;> assumption) | (apply zL_fr1 <;> assumption) | (apply zR_fr0 <;> assumption) | (apply zR_fr1 <;> assumption) | (apply zR_fr2 <;> assumption) | (apply zR_fr3 <;> assumption)) ?_
    refine go_callV ml_X11_389 mt_X9_nothing (pc := 28) dX11_rests_28 (c_X9_nothing) (by first | rfl | (apply zL_cq <;> assumption) | (apply zR_cq <;> assumption)) rfl (by first | rfl | (apply zL_in <;> first | assumption | decide) | (apply zR_in <;> first | assumption | decide)) (by decide) (by decide) rfl rfl (Nat.le_of_ble_eq_true rfl) (fun r σ' hp => ?_)
    obtain ⟨rfl, hT4, hf4⟩ := hp
    dsimp only [zRet]
    refine go_iconst (nI 0) (pc := 31) dX11_rests_31 (by decide) ?_
    refine go_istore (pc := 32) dX11_rests_32 (by decide) ?_
    exact outer 0 _ (by omega) (hC.setTo (to' := (0, _)) hf4 hT4) (Fr33.of hf4 (by simp))
  refine go_iload_n (i := 1) (pc := 0) dX11_rests_0 rfl rfl ?_
  refine go_if_lt 20 (pc := 1) dX11_rests_1 (by decide) (fun h1 => ?_) (fun h1 => ?_)
  · first | rw [zb_0d] at h1 | rw [zn_lt0 (by omega)] at h1 | rw [zi_lt0] at h1
    refine go_iconst (-1) (pc := 20) dX11_rests_20 (by decide) ?_
    refine go_ireturn (pc := 21) dX11_rests_21 rfl ?_
    rw [if_neg (by omega), if_neg (by omega)]
    exact ⟨rfl, hC, Fr33.rf⟩
  · first | rw [zb_0d] at h1 | rw [zn_lt0 (by omega)] at h1 | rw [zi_lt0] at h1
    refine go_iload_n (i := 1) (pc := 4) dX11_rests_4 rfl rfl ?_
    refine go_bipush (nI 20) (pc := 5) dX11_rests_5 (by decide) ?_
    refine go_icmp_gt 20 (pc := 7) dX11_rests_7 (by decide) (fun h7 => ?_) (fun h7 => ?_)
    · first | rw [nI_ltI (by omega) (by omega)] at h7 | rw [zi_ltN (by omega)] at h7 | rw [zi_Nlt (by omega)] at h7 | rw [zi_lt] at h7
      refine go_iconst (-1) (pc := 20) dX11_rests_20 (by decide) ?_
      refine go_ireturn (pc := 21) dX11_rests_21 rfl ?_
      rw [if_neg (by omega), if_neg (by omega)]
      exact ⟨rfl, hC, Fr33.rf⟩
    · first | rw [nI_ltI (by omega) (by omega)] at h7 | rw [zi_ltN (by omega)] at h7 | rw [zi_Nlt (by omega)] at h7 | rw [zi_lt] at h7
      refine go_iload_n (i := 2) (pc := 10) dX11_rests_10 rfl rfl ?_
      refine go_if_lt 20 (pc := 11) dX11_rests_11 (by decide) (fun h11 => ?_) (fun h11 => ?_)
      · first | rw [zb_0d] at h11 | rw [zn_lt0 (by omega)] at h11 | rw [zi_lt0] at h11
        refine go_iconst (-1) (pc := 20) dX11_rests_20 (by decide) ?_
        refine go_ireturn (pc := 21) dX11_rests_21 rfl ?_
        rw [if_neg (by omega), if_neg (by omega)]
        exact ⟨rfl, hC, Fr33.rf⟩
      · first | rw [zb_0d] at h11 | rw [zn_lt0 (by omega)] at h11 | rw [zi_lt0] at h11
        refine go_iload_n (i := 2) (pc := 14) dX11_rests_14 rfl rfl ?_
        refine go_bipush (nI 9) (pc := 15) dX11_rests_15 (by decide) ?_
        refine go_icmp_le 22 (pc := 17) dX11_rests_17 (by decide) (fun h17 => ?_) (fun h17 => ?_)
        · first | rw [nI_leI (by omega) (by omega)] at h17 | rw [zi_leN (by omega)] at h17 | rw [zi_Nle (by omega)] at h17 | rw [zi_le] at h17
          rw [if_pos (by omega : (in0 v 20 ∧ in0 w 9)), if_pos (by omega : (in0 v 20 ∧ in0 w 9))]
          have ev1 := nI_of' (x := v) (by omega)
          generalize hqv1 : v.toInt.toNat = v1 at ev1 ⊢
          have hv1 : v1 ≤ 20 := by omega
          subst ev1
          have ew1 := nI_of' (x := w) (by omega)
          generalize hqw1 : w.toInt.toNat = w1 at ew1 ⊢
          have hw1 : w1 ≤ 9 := by omega
          subst ew1
          exact main v1 w1 hv1 hw1
        · first | rw [nI_leI (by omega) (by omega)] at h17 | rw [zi_leN (by omega)] at h17 | rw [zi_Nle (by omega)] at h17 | rw [zi_le] at h17
          refine go_iconst (-1) (pc := 20) dX11_rests_20 (by decide) ?_
          refine go_ireturn (pc := 21) dX11_rests_21 rfl ?_
          rw [if_neg (by omega), if_neg (by omega)]
          exact ⟨rfl, hC, Fr33.rf⟩

