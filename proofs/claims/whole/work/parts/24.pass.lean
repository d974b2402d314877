theorem endW_hi {n : Nat} {ρ : Nat → Nat} {c i : Nat} (h1 : 1 ≤ n) (h : n ≤ 12) (hi : 12 ≤ i) (h27 : i ≠ 27) : endW n ρ c i = ρ i := by
  have hm : ρ 27 % n < n := Nat.mod_lt _ h1
  unfold endW
  rw [va_at', if_neg h27]
  split
  · exact if_neg (by omega)
  · split
    · exact if_neg (by omega)
    · split
      · rw [va_at', if_neg (by omega)]
      · rfl
theorem endW_27 {n : Nat} {ρ : Nat → Nat} {c : Nat} : endW n ρ c 27 = ρ 27 + 1 := by unfold endW; rw [va_at', if_pos rfl]
theorem wk1_ok {V : zV} {ρ : Nat → Nat} (hV : VOK V) (hok : RowOK (vN V) ρ) (h1 : ρ 27 + 1 < 2 ^ 28) (h2 : ρ 28 + 72 < 2 ^ 28) : RowOK (vN V) (wk1 V ρ).2.2 ∧ (wk1 V ρ).2.2 27 = ρ 27 + 1 ∧ (wk1 V ρ).2.2 28 = ρ 28 + (wk1 V ρ).2.1 ∧ (wk1 V ρ).2.1 ≤ 72 ∧ (wk1 V ρ).1 < 2 ^ 8 ∧ (∀ i, 12 ≤ i → i < 27 → (wk1 V ρ).2.2 i = ρ i) := by
  obtain ⟨c1, c2, c3, c4, -⟩ := crs_ok (st := 0) hV hok (vC V) (Nat.le_refl _)
  have hc := hV.2.2.1
  have hb : (crsA V 0 ρ).1 < 2 ^ 8 := Nat.lt_of_lt_of_le c4 (Nat.pow_le_pow_right (by decide) hc)
  have hl : (crsA V 0 ρ).2.1 ≤ 72 := Nat.le_trans c3 (Nat.mul_le_mul_left 9 hc)
  have h28 : (crsA V 0 ρ).2.2.2 28 = ρ 28 := c2 28 (by decide)
  have h27 : (crsA V 0 ρ).2.2.2 27 = ρ 27 := c2 27 (by decide)
  have hR : RowOK (vN V) (va_up (crsA V 0 ρ).2.2.2 28 ((crsA V 0 ρ).2.2.2 28 + (crsA V 0 ρ).2.1)) := RowOK.hi c1 (by omega)
  have e : (wk1 V ρ).2.2 = endW (vN V) (va_up (crsA V 0 ρ).2.2.2 28 ((crsA V 0 ρ).2.2.2 28 + (crsA V 0 ρ).2.1)) (vW V ((crsA V 0 ρ).2.2.2 27 % vS V)) := rfl
  refine ⟨endW_ok hR (by rw [va_at', if_neg (by decide)]; omega), ?_, ?_, hl, hb, fun i hi hi2 => ?_⟩
  · rw [e, endW_27, va_at', if_neg (by decide), h27]
  · rw [e, endW_hi hV.1 hV.2.1 (by decide) (by decide), va_at', if_pos rfl, h28]
    rfl
  · rw [e, endW_hi hV.1 hV.2.1 hi (by omega), va_at', if_neg (by omega)]
    exact c2 i hi
theorem wks_ok {V : zV} {ρ : Nat → Nat} (hV : VOK V) (hok : RowOK (vN V) ρ) (t : Nat) (h1 : ρ 27 + t < 2 ^ 28) (h2 : ρ 28 + 72 * t < 2 ^ 28) : RowOK (vN V) (wks V ρ t).2.2.2 ∧ (wks V ρ t).2.2.2 27 = ρ 27 + t ∧ (wks V ρ t).2.2.2 28 = ρ 28 + (wks V ρ t).2.2.1 ∧ (wks V ρ t).2.2.1 ≤ 72 * t ∧ (wks V ρ t).1 < 2 ^ 8 ∧ (wks V ρ t).2.1 ≤ t ∧ (∀ i, 12 ≤ i → i < 27 → (wks V ρ t).2.2.2 i = ρ i) := by
  induction t with
  | zero => exact ⟨hok, rfl, rfl, Nat.le_refl _, (by decide : 0 < 2 ^ 8), Nat.le_refl _, fun _ _ _ => rfl⟩
  | succ t ih =>
    obtain ⟨a1, a2, a3, a4, a5, a6, a7⟩ := ih (by omega) (by omega)
    obtain ⟨b1, b2, b3, b4, b5, b6⟩ := wk1_ok hV a1 (by omega) (by omega)
    refine ⟨b1, ?_, ?_, ?_, Nat.or_lt_two_pow a5 b5, ?_, fun i hi hi2 => (b6 i hi hi2).trans (a7 i hi hi2)⟩
    · show (wk1 V _).2.2 27 = _
      rw [b2, a2]; omega
    · show (wk1 V _).2.2 28 = _ + (_ + _)
      rw [b3, a3]; omega
    · show _ + _ ≤ _
      omega
    · show (if (wk1 V (wks V ρ t).2.2.2).2.1 = 0 then (wks V ρ t).2.1 + 1 else (wks V ρ t).2.1) ≤ t + 1
      split <;> omega
/-- the mile over which the most comes -/
def bsy (om : Nat → Nat) : Nat → Option Nat × Nat
  | 0 => (none, 0)
  | j + 1 => if (bsy om j).2 < om j then (some j, om j) else bsy om j

theorem c_X1_busiest {E : zE} {σ : zT} {om : Nat → Nat} (hom : ∀ i, i < 12 → σ.2.1 5 1 i = nI (om i) ∧ om i < 2 ^ 20) : CalM E 0 yX1_busiest cX1_busiest 4 (some .int) [.ref (zA E 5 0)] σ (fun r σ' => r = some (.int (gM (bsy om 12).1)) ∧ σ' = σ) := by
  refine cal_of_go (own := RX1) rfl (by decide +kernel) (Nat.le_of_ble_eq_true rfl) ?_
  have loop : ∀ (j : Nat), j ≤ 12 → (bsy om j).2 < 2 ^ 20 → GoM E 0 RX1 cX1_busiest 4 (some .int) (fun r σ' => r = some (.int (gM (bsy om 12).1)) ∧ σ' = σ) σ 6 [(0, .ref (zA E 5 0)), (1, .int (gM (bsy om j).1)), (2, .int (nI (bsy om j).2)), (3, .int (nI j))] [] := by
    intro j
    induction hj : 12 - j using Nat.strongRecOn generalizing j with
    | ind z ih =>
      intro hj12 hb20
      refine go_iload_n (i := 3) (pc := 6) dX1_busiest_6 rfl rfl ?_
      refine go_bipush (nI 12) (pc := 7) dX1_busiest_7 (by decide) ?_
      refine go_icmp_ge 37 (pc := 9) dX1_busiest_9 (by decide) (fun h9 => ?_) (fun h9 => ?_)
      · first | rw [nI_leI (by omega) (by omega)] at h9 | rw [zi_leN (by omega)] at h9 | rw [zi_Nle (by omega)] at h9 | rw [zi_le] at h9
        have e : j = 12 := by omega
        subst e
        refine go_iload_n (i := 1) (pc := 37) dX1_busiest_37 rfl rfl ?_
        refine go_ireturn (pc := 38) dX1_busiest_38 rfl ?_
        exact ⟨rfl, rfl⟩
      · first | rw [nI_leI (by omega) (by omega)] at h9 | rw [zi_leN (by omega)] at h9 | rw [zi_Nle (by omega)] at h9 | rw [zi_le] at h9
        refine go_aload_n (i := 0) (pc := 12) dX1_busiest_12 rfl rfl ?_
        refine go_getr2 fl_X1_9 (pc := 13) dX1_busiest_13 (by first | rfl | (apply zL_ci <;> assumption) | (apply zR_ci <;> assumption)) (by first | rfl | (apply zL_in <;> first | assumption | decide) | (apply zR_in <;> first | assumption | decide)) (by first | rfl | (apply zL_fr0 <;> assumption) | (apply zL_fr1 <;> assumption) | (apply zR_fr0 <;> assumption) | (apply zR_fr1 <;> assumption) | (apply zR_fr2 <;> assumption) | (apply zR_fr3 <;> assumption)) ?_
        refine go_iload_n (i := 3) (pc := 16) dX1_busiest_16 rfl rfl ?_
        refine go_iaload _ (pc := 17) dX1_busiest_17 (by first | rfl | (apply zL_ar1 <;> assumption) | (apply zL_ar2 <;> assumption) | (apply zR_ar1 <;> assumption) | (apply zR_ar2 <;> assumption) | (apply zR_ar3 <;> assumption) | (apply zR_ar4 <;> assumption)) (by first | rfl | (apply zL_jn <;> first | assumption | decide) | (apply zR_jn <;> first | assumption | decide)) rfl (by first | assumption | omega) ?_
        have h4 := hom j (by omega)
        rw [h4.1]
        refine go_iload_n (i := 2) (pc := 18) dX1_busiest_18 rfl rfl ?_
        refine go_icmp_le 31 (pc := 19) dX1_busiest_19 (by decide) (fun h19 => ?_) (fun h19 => ?_)
        · first | rw [nI_leI (by omega) (by omega)] at h19 | rw [zi_leN (by omega)] at h19 | rw [zi_Nle (by omega)] at h19 | rw [zi_le] at h19
          have es : bsy om (j + 1) = bsy om j := by rw [bsy, if_neg (by omega)]
          rw [← es]
          refine go_iincN (pc := 31) dX1_busiest_31 rfl (by decide) ?_
          refine go_goto 6 (pc := 34) dX1_busiest_34 (by decide) ?_
          first
            | exact ih (12 - (j + 1)) (by omega) (j + 1) rfl (by omega) (by rw [es]; exact hb20)
            | (have h := ih (12 - (j + 1)) (by omega) (j + 1) rfl (by omega) (by rw [es]; exact h4.2)
               rw [es] at h
               exact h)
        · first | rw [nI_leI (by omega) (by omega)] at h19 | rw [zi_leN (by omega)] at h19 | rw [zi_Nle (by omega)] at h19 | rw [zi_le] at h19
          have es : bsy om (j + 1) = (some j, om j) := by rw [bsy, if_pos (by omega)]
          refine go_aload_n (i := 0) (pc := 22) dX1_busiest_22 rfl rfl ?_
          refine go_getr2 fl_X1_9 (pc := 23) dX1_busiest_23 (by first | rfl | (apply zL_ci <;> assumption) | (apply zR_ci <;> assumption)) (by first | rfl | (apply zL_in <;> first | assumption | decide) | (apply zR_in <;> first | assumption | decide)) (by first | rfl | (apply zL_fr0 <;> assumption) | (apply zL_fr1 <;> assumption) | (apply zR_fr0 <;> assumption) | (apply zR_fr1 <;> assumption) | (apply zR_fr2 <;> assumption) | (apply zR_fr3 <;> assumption)) ?_
          refine go_iload_n (i := 3) (pc := 26) dX1_busiest_26 rfl rfl ?_
          refine go_iaload _ (pc := 27) dX1_busiest_27 (by first | rfl | (apply zL_ar1 <;> assumption) | (apply zL_ar2 <;> assumption) | (apply zR_ar1 <;> assumption) | (apply zR_ar2 <;> assumption) | (apply zR_ar3 <;> assumption) | (apply zR_ar4 <;> assumption)) (by first | rfl | (apply zL_jn <;> first | assumption | decide) | (apply zR_jn <;> first | assumption | decide)) rfl (by first | assumption | omega) ?_
          rw [h4.1]
          refine go_istore_n (i := 2) (pc := 28) dX1_busiest_28 rfl (by decide) ?_
          refine go_iload_n (i := 3) (pc := 29) dX1_busiest_29 rfl rfl ?_
          refine go_istore_n (i := 1) (pc := 30) dX1_busiest_30 rfl (by decide) ?_
          refine go_iincN (pc := 31) dX1_busiest_31 rfl (by decide) ?_
          refine go_goto 6 (pc := 34) dX1_busiest_34 (by decide) ?_
          first
            | exact ih (12 - (j + 1)) (by omega) (j + 1) rfl (by omega) (by rw [es]; exact hb20)
            | (have h := ih (12 - (j + 1)) (by omega) (j + 1) rfl (by omega) (by rw [es]; exact h4.2)
               rw [es] at h
               exact h)
  refine go_iconst (-1) (pc := 0) dX1_busiest_0 (by decide) ?_
  refine go_istore_n (i := 1) (pc := 1) dX1_busiest_1 rfl (by decide) ?_
  refine go_iconst (nI 0) (pc := 2) dX1_busiest_2 (by decide) ?_
  refine go_istore_n (i := 2) (pc := 3) dX1_busiest_3 rfl (by decide) ?_
  refine go_iconst (nI 0) (pc := 4) dX1_busiest_4 (by decide) ?_
  refine go_istore_n (i := 3) (pc := 5) dX1_busiest_5 rfl (by decide) ?_
  exact loop 0 (by omega) (by show 0 < 2 ^ 20; decide)

set_option maxRecDepth 4000 in
theorem c_X1_pass {E : zE} {σ : zT} {kr kl : Nat} {V : zV} {ρ : Nat → Nat} {n : Nat} (hW : WIs σ kr kl V ρ) (h27 : ρ 27 + n < 2 ^ 28) (h28 : ρ 28 + 72 * n < 2 ^ 28) : CalM E 5 yX1_pass cX1_pass 7 (some .int) [.ref (zA E 5 0), .ref (zA E kr 0), .ref (zA E kl 0), .int (nI n)] σ (fun r σ' => r = some (.int (nI (wks V ρ n).2.2.1)) ∧ σ'.1 5 5 = nI (wks V ρ n).1 ∧ σ'.1 5 6 = nI (wks V ρ n).2.1 ∧ (1 ≤ n → σ'.1 5 4 = nI (wk1 V (wks V ρ (n - 1)).2.2.2).1) ∧ WIs σ' kr kl V (wks V ρ n).2.2.2 ∧ FrG [kr, 5, kl] σ σ') := by
  refine cal_of_go (own := RX1) rfl (by decide +kernel) (Nat.le_of_ble_eq_true rfl) ?_
  have hV := hW.vok
  have h0 := hW.1.1
  have h1 := hW.1.2
  have hno := zR_no h0 h1
  have hok := hW.2.2.2.2.1
  have loop : ∀ (t : Nat) (τ : zT), t ≤ n → τ.1 5 5 = nI (wks V ρ t).1 → τ.1 5 6 = nI (wks V ρ t).2.1 → (1 ≤ t → τ.1 5 4 = nI (wk1 V (wks V ρ (t - 1)).2.2.2).1) → WIs τ kr kl V (wks V ρ t).2.2.2 → FrG [kr, 5, kl] σ τ → GoM E 5 RX1 cX1_pass 7 (some .int) (fun r σ' => r = some (.int (nI (wks V ρ n).2.2.1)) ∧ σ'.1 5 5 = nI (wks V ρ n).1 ∧ σ'.1 5 6 = nI (wks V ρ n).2.1 ∧ (1 ≤ n → σ'.1 5 4 = nI (wk1 V (wks V ρ (n - 1)).2.2.2).1) ∧ WIs σ' kr kl V (wks V ρ n).2.2.2 ∧ FrG [kr, 5, kl] σ σ') τ 16 [(0, .ref (zA E 5 0)), (1, .ref (zA E kr 0)), (2, .ref (zA E kl 0)), (3, .int (nI n)), (4, .int (nI (wks V ρ t).2.2.1)), (5, .int (nI t))] [] := by
    intro t
    induction hj : n - t using Nat.strongRecOn generalizing t with
    | ind z ih =>
      intro τ htn he hq hwn hT hF
      obtain ⟨a1, a2, a3, a4, a5, a6, a7⟩ := wks_ok hV hok t (by omega) (by omega)
      refine go_iload (pc := 16) dX1_pass_16 rfl ?_
      refine go_iload_n (i := 3) (pc := 18) dX1_pass_18 rfl rfl ?_
      refine go_icmp_ge 93 (pc := 19) dX1_pass_19 (by decide) (fun h19 => ?_) (fun h19 => ?_)
      · first | rw [nI_leI (by omega) (by omega)] at h19 | rw [zi_leN (by omega)] at h19 | rw [zi_Nle (by omega)] at h19 | rw [zi_le] at h19
        have ej : t = n := by omega
        subst ej
        refine go_iload (pc := 93) dX1_pass_93 rfl ?_
        refine go_ireturn (pc := 95) dX1_pass_95 rfl ?_
        exact ⟨rfl, he, hq, hwn, hT, hF⟩
      · first | rw [nI_leI (by omega) (by omega)] at h19 | rw [zi_leN (by omega)] at h19 | rw [zi_Nle (by omega)] at h19 | rw [zi_le] at h19
        refine go_aload_n (i := 0) (pc := 22) dX1_pass_22 rfl rfl ?_
        refine go_aload_n (i := 1) (pc := 23) dX1_pass_23 rfl rfl ?_
        refine go_aload_n (i := 2) (pc := 24) dX1_pass_24 rfl rfl ?_
        refine go_iconst (nI 0) (pc := 25) dX1_pass_25 (by decide) ?_
        refine go_callV ml_X1_112 mt_X1_cross (pc := 26) dX1_pass_26 (c_X1_cross hT (by decide)) (by first | rfl | (apply zL_cq <;> assumption) | (apply zR_cq <;> assumption)) rfl (by first | rfl | (apply zL_in <;> first | assumption | decide) | (apply zR_in <;> first | assumption | decide)) (by decide) (by decide) rfl rfl (Nat.le_of_ble_eq_true rfl) (fun r σ' hp => ?_)
        obtain ⟨rfl, hw4, -, hT2, hF2, hF52⟩ := hp
        dsimp only [zRet]
        obtain ⟨c1, c2, c3, c4, -⟩ := crs_ok (st := 0) hV a1 (vC V) (Nat.le_refl _)
        have c28 : (crsA V 0 (wks V ρ t).2.2.2).2.2.2 28 = (wks V ρ t).2.2.2 28 := c2 28 (by decide)
        have c27 : (crsA V 0 (wks V ρ t).2.2.2).2.2.2 27 = (wks V ρ t).2.2.2 27 := c2 27 (by decide)
        have hl72 : (crsA V 0 (wks V ρ t).2.2.2).2.1 ≤ 72 := Nat.le_trans c3 (Nat.mul_le_mul_left 9 hV.2.2.1)
        have he2 : σ'.1 5 5 = nI (wks V ρ t).1 := by rw [hF52 5 (by decide) (by decide)]; exact he
        have hq2 : σ'.1 5 6 = nI (wks V ρ t).2.1 := by rw [hF52 6 (by decide) (by decide)]; exact hq
        refine go_istore (pc := 29) dX1_pass_29 (by decide) ?_
        refine go_aload_n (i := 0) (pc := 31) dX1_pass_31 rfl rfl ?_
        refine go_dup (pc := 32) dX1_pass_32 rfl ?_
        refine go_geti fl_X1_106 (pc := 33) dX1_pass_33 (by first | rfl | (apply zL_fi <;> first | assumption | decide) | (apply zR_fi <;> first | assumption | decide)) ?_
        rw [he2]
        refine go_aload_n (i := 0) (pc := 36) dX1_pass_36 rfl rfl ?_
        refine go_geti fl_X1_96 (pc := 37) dX1_pass_37 (by first | rfl | (apply zL_fi <;> first | assumption | decide) | (apply zR_fi <;> first | assumption | decide)) ?_
        rw [hw4]
        refine go_ior (pc := 40) dX1_pass_40 ?_
        rw [zorN]
        refine go_puti fp_X1_106 (pc := 41) dX1_pass_41 (by first | rfl | (apply zL_fi <;> first | assumption | decide) | (apply zR_fi <;> first | assumption | decide)) rfl rfl ?_
        have f0 : FrG [5] σ' (uS σ' 5 5 (nI ((wks V ρ t).1 ||| (crsA V 0 (wks V ρ t).2.2.2).1))) := FrG.rf.uS (by simp)
        have g5 : (uS σ' 5 5 (nI ((wks V ρ t).1 ||| (crsA V 0 (wks V ρ t).2.2.2).1))).1 5 5 = nI ((wks V ρ t).1 ||| (crsA V 0 (wks V ρ t).2.2.2).1) := uS_s _ _ _ _
        have g6 : (uS σ' 5 5 (nI ((wks V ρ t).1 ||| (crsA V 0 (wks V ρ t).2.2.2).1))).1 5 6 = nI (wks V ρ t).2.1 := by rw [uS_1, if_neg (by simp)]; exact hq2
        have g4 : (uS σ' 5 5 (nI ((wks V ρ t).1 ||| (crsA V 0 (wks V ρ t).2.2.2).1))).1 5 4 = nI (crsA V 0 (wks V ρ t).2.2.2).1 := by rw [uS_1, if_neg (by simp)]; exact hw4
        generalize uS σ' 5 5 (nI ((wks V ρ t).1 ||| (crsA V 0 (wks V ρ t).2.2.2).1)) = τ1 at f0 g5 g6 g4 ⊢
        refine go_iload (pc := 44) dX1_pass_44 rfl ?_
        refine go_if_ne 59 (pc := 46) dX1_pass_46 (by decide) (fun h46 => ?_) (fun h46 => ?_)
        · first | rw [zb_0d] at h46 | rw [zn_eq0 (by omega)] at h46 | rw [zi_eq0] at h46
          have f1 := f0
          have k5 := g5
          have k6 : τ1.1 5 6 = nI (wks V ρ (t + 1)).2.1 := by
            have e : (wks V ρ (t + 1)).2.1 = (wks V ρ t).2.1 := if_neg (by show ¬ (crsA V 0 (wks V ρ t).2.2.2).2.1 = 0; omega)
            rw [e]; exact g6
          have k4 := g4
          refine go_iload (pc := 59) dX1_pass_59 rfl ?_
          refine go_iload (pc := 61) dX1_pass_61 rfl ?_
          first | with_reducible refine go_iaddN (pc := 63) dX1_pass_63 ?_ | refine go_iadd (pc := 63) dX1_pass_63 ?_
          refine go_istore (pc := 64) dX1_pass_64 (by decide) ?_
          have hT3 := hT2.fr f1 (by simp; omega)
          refine go_aload_n (i := 2) (pc := 66) dX1_pass_66 rfl rfl ?_
          refine go_iload (pc := 67) dX1_pass_67 rfl ?_
          refine go_callV ml_X1_115 mt_X2_comeOver (pc := 69) dX1_pass_69 (c_X2_comeOver h1 hT3.2.2.2.2 (by omega)) (by first | rfl | (apply zL_cq <;> assumption) | (apply zR_cq <;> assumption)) rfl (by first | rfl | (apply zL_in <;> first | assumption | decide) | (apply zR_in <;> first | assumption | decide)) (by decide) (by decide) rfl rfl (Nat.le_of_ble_eq_true rfl) (fun r σ' hp => ?_)
          obtain ⟨rfl, hL4, f4⟩ := hp
          dsimp only [zRet]
          have hT4 := hT3.ld f4 hL4
          have e27 : va_up (crsA V 0 (wks V ρ t).2.2.2).2.2.2 28 ((crsA V 0 (wks V ρ t).2.2.2).2.2.2 28 + (crsA V 0 (wks V ρ t).2.2.2).2.1) 27 = (crsA V 0 (wks V ρ t).2.2.2).2.2.2 27 := by rw [va_at', if_neg (by decide)]
          refine go_aload_n (i := 2) (pc := 72) dX1_pass_72 rfl rfl ?_
          refine go_aload_n (i := 0) (pc := 73) dX1_pass_73 rfl rfl ?_
          refine go_getr2 fl_X1_19 (pc := 74) dX1_pass_74 (by first | rfl | (apply zL_ci <;> assumption) | (apply zR_ci <;> assumption)) (by first | rfl | (apply zL_in <;> first | assumption | decide) | (apply zR_in <;> first | assumption | decide)) (by first | rfl | (apply zL_fr0 <;> assumption) | (apply zL_fr1 <;> assumption) | (apply zR_fr0 <;> assumption) | (apply zR_fr1 <;> assumption) | (apply zR_fr2 <;> assumption) | (apply zR_fr3 <;> assumption)) ?_
          refine go_aload_n (i := 2) (pc := 77) dX1_pass_77 rfl rfl ?_
          refine go_callV ml_X1_42 mt_X2_week (pc := 78) dX1_pass_78 (c_X2_week h1 hT4.2.2.2.2) (by first | rfl | (apply zL_cq <;> assumption) | (apply zR_cq <;> assumption)) rfl (by first | rfl | (apply zL_in <;> first | assumption | decide) | (apply zR_in <;> first | assumption | decide)) (by decide) (by decide) rfl rfl (Nat.le_of_ble_eq_true rfl) (fun r σ' hp => ?_)
          obtain ⟨rfl, hσ⟩ := hp
          rw [hσ]
          clear hσ σ'
          dsimp only [zRet]
          rw [e27]
          refine go_callV ml_X1_45 mt_X7_of (pc := 81) dX1_pass_81 (c_X7_of hT4.2.2.2.1 (by omega)) (by first | rfl | (apply zL_cq <;> assumption) | (apply zR_cq <;> assumption)) rfl (by first | rfl | (apply zL_in <;> first | assumption | decide) | (apply zR_in <;> first | assumption | decide)) (by decide) (by decide) rfl rfl (Nat.le_of_ble_eq_true rfl) (fun r σ' hp => ?_)
          obtain ⟨rfl, hσ⟩ := hp
          rw [hσ]
          clear hσ σ'
          dsimp only [zRet]
          refine go_callV ml_X1_119 mt_X2_endWeek (pc := 84) dX1_pass_84 (c_X2_endWeek h1 hT4.2.2.2.2 (by omega)) (by first | rfl | (apply zL_cq <;> assumption) | (apply zR_cq <;> assumption)) rfl (by first | rfl | (apply zL_in <;> first | assumption | decide) | (apply zR_in <;> first | assumption | decide)) (by decide) (by decide) rfl rfl (Nat.le_of_ble_eq_true rfl) (fun r σ' hp => ?_)
          obtain ⟨rfl, hL5, f5⟩ := hp
          dsimp only [zRet]
          have hT5 := hT4.ld f5 hL5
          refine go_iincN (pc := 87) dX1_pass_87 rfl (by decide) ?_
          refine go_goto 16 (pc := 90) dX1_pass_90 (by decide) ?_
          refine go_drop [0, 1, 2, 3, 4, 5] rfl ?_
          refine ih (n - (t + 1)) (by omega) (t + 1) rfl _ (by omega) ?_ ?_ (fun _ => ?_) hT5 ((hF.tr hF2).tr ((f1.mono (by simp)).tr ((f4.mono (by simp)).tr (f5.mono (by simp)))))
          · rw [(f5.1 5 (by simp; omega)).1, (f4.1 5 (by simp; omega)).1]; exact k5
          · rw [(f5.1 5 (by simp; omega)).1, (f4.1 5 (by simp; omega)).1]; exact k6
          · rw [(f5.1 5 (by simp; omega)).1, (f4.1 5 (by simp; omega)).1]; exact k4
        · first | rw [zb_0d] at h46 | rw [zn_eq0 (by omega)] at h46 | rw [zi_eq0] at h46
          refine go_aload_n (i := 0) (pc := 49) dX1_pass_49 rfl rfl ?_
          refine go_dup (pc := 50) dX1_pass_50 rfl ?_
          refine go_geti fl_X1_109 (pc := 51) dX1_pass_51 (by first | rfl | (apply zL_fi <;> first | assumption | decide) | (apply zR_fi <;> first | assumption | decide)) ?_
          rw [g6]
          refine go_iconst (nI 1) (pc := 54) dX1_pass_54 (by decide) ?_
          first | with_reducible refine go_iaddN (pc := 55) dX1_pass_55 ?_ | refine go_iadd (pc := 55) dX1_pass_55 ?_
          refine go_puti fp_X1_109 (pc := 56) dX1_pass_56 (by first | rfl | (apply zL_fi <;> first | assumption | decide) | (apply zR_fi <;> first | assumption | decide)) rfl rfl ?_
          have f1 : FrG [5] σ' (uS τ1 5 6 (nI ((wks V ρ t).2.1 + 1))) := f0.uS (by simp)
          have k5 : (uS τ1 5 6 (nI ((wks V ρ t).2.1 + 1))).1 5 5 = nI ((wks V ρ t).1 ||| (crsA V 0 (wks V ρ t).2.2.2).1) := by rw [uS_1, if_neg (by simp)]; exact g5
          have k6 : (uS τ1 5 6 (nI ((wks V ρ t).2.1 + 1))).1 5 6 = nI (wks V ρ (t + 1)).2.1 := by
            rw [uS_s]
            have e : (wks V ρ (t + 1)).2.1 = (wks V ρ t).2.1 + 1 := if_pos (by show (crsA V 0 (wks V ρ t).2.2.2).2.1 = 0; omega)
            rw [e]
          have k4 : (uS τ1 5 6 (nI ((wks V ρ t).2.1 + 1))).1 5 4 = nI (crsA V 0 (wks V ρ t).2.2.2).1 := by rw [uS_1, if_neg (by simp)]; exact g4
          generalize uS τ1 5 6 (nI ((wks V ρ t).2.1 + 1)) = τ2 at f1 k5 k6 k4 ⊢
          refine go_iload (pc := 59) dX1_pass_59 rfl ?_
          refine go_iload (pc := 61) dX1_pass_61 rfl ?_
          first | with_reducible refine go_iaddN (pc := 63) dX1_pass_63 ?_ | refine go_iadd (pc := 63) dX1_pass_63 ?_
          refine go_istore (pc := 64) dX1_pass_64 (by decide) ?_
          have hT3 := hT2.fr f1 (by simp; omega)
          refine go_aload_n (i := 2) (pc := 66) dX1_pass_66 rfl rfl ?_
          refine go_iload (pc := 67) dX1_pass_67 rfl ?_
          refine go_callV ml_X1_115 mt_X2_comeOver (pc := 69) dX1_pass_69 (c_X2_comeOver h1 hT3.2.2.2.2 (by omega)) (by first | rfl | (apply zL_cq <;> assumption) | (apply zR_cq <;> assumption)) rfl (by first | rfl | (apply zL_in <;> first | assumption | decide) | (apply zR_in <;> first | assumption | decide)) (by decide) (by decide) rfl rfl (Nat.le_of_ble_eq_true rfl) (fun r σ' hp => ?_)
          obtain ⟨rfl, hL4, f4⟩ := hp
          dsimp only [zRet]
          have hT4 := hT3.ld f4 hL4
          have e27 : va_up (crsA V 0 (wks V ρ t).2.2.2).2.2.2 28 ((crsA V 0 (wks V ρ t).2.2.2).2.2.2 28 + (crsA V 0 (wks V ρ t).2.2.2).2.1) 27 = (crsA V 0 (wks V ρ t).2.2.2).2.2.2 27 := by rw [va_at', if_neg (by decide)]
          refine go_aload_n (i := 2) (pc := 72) dX1_pass_72 rfl rfl ?_
          refine go_aload_n (i := 0) (pc := 73) dX1_pass_73 rfl rfl ?_
          refine go_getr2 fl_X1_19 (pc := 74) dX1_pass_74 (by first | rfl | (apply zL_ci <;> assumption) | (apply zR_ci <;> assumption)) (by first | rfl | (apply zL_in <;> first | assumption | decide) | (apply zR_in <;> first | assumption | decide)) (by first | rfl | (apply zL_fr0 <;> assumption) | (apply zL_fr1 <;> assumption) | (apply zR_fr0 <;> assumption) | (apply zR_fr1 <;> assumption) | (apply zR_fr2 <;> assumption) | (apply zR_fr3 <;> assumption)) ?_
          refine go_aload_n (i := 2) (pc := 77) dX1_pass_77 rfl rfl ?_
          refine go_callV ml_X1_42 mt_X2_week (pc := 78) dX1_pass_78 (c_X2_week h1 hT4.2.2.2.2) (by first | rfl | (apply zL_cq <;> assumption) | (apply zR_cq <;> assumption)) rfl (by first | rfl | (apply zL_in <;> first | assumption | decide) | (apply zR_in <;> first | assumption | decide)) (by decide) (by decide) rfl rfl (Nat.le_of_ble_eq_true rfl) (fun r σ' hp => ?_)
          obtain ⟨rfl, hσ⟩ := hp
          rw [hσ]
          clear hσ σ'
          dsimp only [zRet]
          rw [e27]
          refine go_callV ml_X1_45 mt_X7_of (pc := 81) dX1_pass_81 (c_X7_of hT4.2.2.2.1 (by omega)) (by first | rfl | (apply zL_cq <;> assumption) | (apply zR_cq <;> assumption)) rfl (by first | rfl | (apply zL_in <;> first | assumption | decide) | (apply zR_in <;> first | assumption | decide)) (by decide) (by decide) rfl rfl (Nat.le_of_ble_eq_true rfl) (fun r σ' hp => ?_)
          obtain ⟨rfl, hσ⟩ := hp
          rw [hσ]
          clear hσ σ'
          dsimp only [zRet]
          refine go_callV ml_X1_119 mt_X2_endWeek (pc := 84) dX1_pass_84 (c_X2_endWeek h1 hT4.2.2.2.2 (by omega)) (by first | rfl | (apply zL_cq <;> assumption) | (apply zR_cq <;> assumption)) rfl (by first | rfl | (apply zL_in <;> first | assumption | decide) | (apply zR_in <;> first | assumption | decide)) (by decide) (by decide) rfl rfl (Nat.le_of_ble_eq_true rfl) (fun r σ' hp => ?_)
          obtain ⟨rfl, hL5, f5⟩ := hp
          dsimp only [zRet]
          have hT5 := hT4.ld f5 hL5
          refine go_iincN (pc := 87) dX1_pass_87 rfl (by decide) ?_
          refine go_goto 16 (pc := 90) dX1_pass_90 (by decide) ?_
          refine go_drop [0, 1, 2, 3, 4, 5] rfl ?_
          refine ih (n - (t + 1)) (by omega) (t + 1) rfl _ (by omega) ?_ ?_ (fun _ => ?_) hT5 ((hF.tr hF2).tr ((f1.mono (by simp)).tr ((f4.mono (by simp)).tr (f5.mono (by simp)))))
          · rw [(f5.1 5 (by simp; omega)).1, (f4.1 5 (by simp; omega)).1]; exact k5
          · rw [(f5.1 5 (by simp; omega)).1, (f4.1 5 (by simp; omega)).1]; exact k6
          · rw [(f5.1 5 (by simp; omega)).1, (f4.1 5 (by simp; omega)).1]; exact k4
  refine go_aload_n (i := 0) (pc := 0) dX1_pass_0 rfl rfl ?_
  refine go_iconst (nI 0) (pc := 1) dX1_pass_1 (by decide) ?_
  refine go_puti fp_X1_106 (pc := 2) dX1_pass_2 (by first | rfl | (apply zL_fi <;> first | assumption | decide) | (apply zR_fi <;> first | assumption | decide)) rfl rfl ?_
  refine go_aload_n (i := 0) (pc := 5) dX1_pass_5 rfl rfl ?_
  refine go_iconst (nI 0) (pc := 6) dX1_pass_6 (by decide) ?_
  refine go_puti fp_X1_109 (pc := 7) dX1_pass_7 (by first | rfl | (apply zL_fi <;> first | assumption | decide) | (apply zR_fi <;> first | assumption | decide)) rfl rfl ?_
  refine go_iconst (nI 0) (pc := 10) dX1_pass_10 (by decide) ?_
  refine go_istore (pc := 11) dX1_pass_11 (by decide) ?_
  refine go_iconst (nI 0) (pc := 13) dX1_pass_13 (by decide) ?_
  refine go_istore (pc := 14) dX1_pass_14 (by decide) ?_
  exact loop 0 _ (by omega) (by rw [uS_1, if_neg (by simp), uS_s]; rfl) (by rw [uS_s]; rfl) (fun h => absurd h (by omega)) (hW.fr (S := [5]) ((FrG.rf.uS (by simp)).uS (by simp)) (by simp; omega)) ((FrG.rf.uS (by simp)).uS (by simp))

