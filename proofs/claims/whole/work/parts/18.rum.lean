/-- what was heard -/
def RumIs (σ : zT) (h : Nat) (wh vl : Nat → Nat) : Prop := h ≤ 12 ∧ σ.1 29 2 = nI h ∧ ∀ i, i < h → σ.2.1 29 1 i = nI (wh i) ∧ σ.2.1 29 2 i = nI (vl i) ∧ wh i ≤ 2 ∧ vl i ≤ 9
theorem RumIs.fr {σ σ' : zT} {h : Nat} {wh vl : Nat → Nat} {S : List Nat} (hR : RumIs σ h wh vl) (hf : FrG S σ σ') (hk : 29 ∉ S) : RumIs σ' h wh vl := by
  obtain ⟨e1, e2, -⟩ := hf.1 29 hk
  exact ⟨hR.1, by rw [e1]; exact hR.2.1, fun i hi => by rw [e2]; exact hR.2.2 i hi⟩
theorem z00 : (nI 0).toInt = 0 := by decide
theorem z11 : (nI 1).toInt = 1 := by decide
abbrev known (w v : Int32) : Prop := (w.toInt = 0 ∧ 0 ≤ v.toInt ∧ v.toInt ≤ 4) ∨ (w.toInt = 1 ∧ 1 ≤ v.toInt ∧ v.toInt ≤ 9) ∨ (w.toInt = 2 ∧ 0 ≤ v.toInt ∧ v.toInt ≤ 1)
def fit1 (wh vl kd ld : Nat) (go : Bool) : Bool := if wh = 0 then decide (kd = vl) else if wh = 1 then decide (vl ≤ ld) else (go == decide (vl = 1))
def fitA (wh vl : Nat → Nat) (kd ld : Nat) (go : Bool) : Nat → Bool
  | 0 => true
  | i + 1 => fitA wh vl kd ld go i && fit1 (wh i) (vl i) kd ld go

theorem c_X5_size {E : zE} {σ : zT} {h : Nat} {wh vl : Nat → Nat} (hR : RumIs σ h wh vl) : CalM E 0 yX5_size cX5_size 1 (some .int) [.ref (zA E 29 0)] σ (fun r σ' => r = some (.int (nI h)) ∧ σ' = σ) := by
  refine cal_of_go (own := RX5) rfl (by decide +kernel) (Nat.le_of_ble_eq_true rfl) ?_
  refine go_aload_n (i := 0) (pc := 0) dX5_size_0 rfl rfl ?_
  refine go_geti fl_X5_16 (pc := 1) dX5_size_1 (by first | rfl | (apply zL_fi <;> first | assumption | decide) | (apply zR_fi <;> first | assumption | decide)) ?_
  rw [hR.2.1]
  refine go_ireturn (pc := 4) dX5_size_4 rfl ?_
  exact ⟨rfl, rfl⟩

theorem c_X5_clear {E : zE} {σ : zT}   : CalM E 0 yX5_clear cX5_clear 1 none [.ref (zA E 29 0)] σ (fun r σ' => r = none ∧ (∀ wh' vl', RumIs σ' 0 wh' vl') ∧ FrG [29] σ σ') := by
  refine cal_of_go (own := RX5) rfl (by decide +kernel) (Nat.le_of_ble_eq_true rfl) ?_
  refine go_aload_n (i := 0) (pc := 0) dX5_clear_0 rfl rfl ?_
  refine go_iconst (nI 0) (pc := 1) dX5_clear_1 (by decide) ?_
  refine go_puti fp_X5_16 (pc := 2) dX5_clear_2 (by first | rfl | (apply zL_fi <;> first | assumption | decide) | (apply zR_fi <;> first | assumption | decide)) rfl rfl ?_
  refine go_return (pc := 5) dX5_clear_5 rfl ?_
  exact ⟨rfl, fun _ _ => ⟨by omega, by simp [uS_1], fun i hi => absurd hi (by omega)⟩, FrG.rf.uS (by simp)⟩

theorem c_X5_hear {E : zE} {σ : zT} {h : Nat} {wh vl : Nat → Nat} {w v : Int32} (hR : RumIs σ h wh vl) : CalM E 0 yX5_hear cX5_hear 4 (some .boolean) [.ref (zA E 29 0), .int w, .int v] σ (fun r σ' => r = some (.int (zb (decide (known w v ∧ h < 12)))) ∧ (if known w v ∧ h < 12 then RumIs σ' (h + 1) (va_up wh h w.toInt.toNat) (va_up vl h v.toInt.toNat) ∧ FrG [29] σ σ' else σ' = σ)) := by
  refine cal_of_go (own := RX5) rfl (by decide +kernel) (Nat.le_of_ble_eq_true rfl) ?_
  have hh := hR.1
  have cut : ∀ b : Bool, (b = true ↔ known w v) → GoM E 0 RX5 cX5_hear 4 (some .boolean) (fun r σ' => r = some (.int (zb (decide (known w v ∧ h < 12)))) ∧ (if known w v ∧ h < 12 then RumIs σ' (h + 1) (va_up wh h w.toInt.toNat) (va_up vl h v.toInt.toNat) ∧ FrG [29] σ σ' else σ' = σ)) σ 48 [(0, .ref (zA E 29 0)), (1, .int w), (2, .int v)] [.int (zb b)] := by
    intro b hb
    cases b with
    | false =>
      have hkn : ¬ known w v := fun q => absurd (hb.mpr q) (by decide)
      refine go_istore_n (i := 3) (pc := 48) dX5_hear_48 rfl (by decide) ?_
      refine go_iload_n (i := 3) (pc := 49) dX5_hear_49 rfl rfl ?_
      refine go_if_eq 69 (pc := 50) dX5_hear_50 (by decide) (fun h50 => ?_) (fun h50 => absurd rfl h50)
      refine go_iconst (nI 0) (pc := 69) dX5_hear_69 (by decide) ?_
      refine go_zreturn (pc := 70) dX5_hear_70 rfl (by first | rfl | (apply zb_nar)) ?_
      first
        | exact ⟨zr_f (fun q => by have := q.2; omega), by rw [if_neg (fun q => by have := q.2; omega)]⟩
        | exact ⟨zr_f (fun q => hkn q.1), by rw [if_neg (fun q => hkn q.1)]⟩
    | true =>
      have hkn : known w v := hb.mp rfl
      refine go_istore_n (i := 3) (pc := 48) dX5_hear_48 rfl (by decide) ?_
      refine go_iload_n (i := 3) (pc := 49) dX5_hear_49 rfl rfl ?_
      refine go_if_eq 69 (pc := 50) dX5_hear_50 (by decide) (fun h50 => absurd h50 (by decide)) (fun h50 => ?_)
      refine go_aload_n (i := 0) (pc := 53) dX5_hear_53 rfl rfl ?_
      refine go_geti fl_X5_16 (pc := 54) dX5_hear_54 (by first | rfl | (apply zL_fi <;> first | assumption | decide) | (apply zR_fi <;> first | assumption | decide)) ?_
      rw [hR.2.1]
      refine go_if_lt 69 (pc := 57) dX5_hear_57 (by decide) (fun h57 => ?_) (fun h57 => ?_)
      · first | rw [zb_0d] at h57 | rw [zn_lt0 (by omega)] at h57 | rw [zi_lt0] at h57
        exact h57.elim
      · first | rw [zb_0d] at h57 | rw [zn_lt0 (by omega)] at h57 | rw [zi_lt0] at h57
        refine go_aload_n (i := 0) (pc := 60) dX5_hear_60 rfl rfl ?_
        refine go_geti fl_X5_16 (pc := 61) dX5_hear_61 (by first | rfl | (apply zL_fi <;> first | assumption | decide) | (apply zR_fi <;> first | assumption | decide)) ?_
        rw [hR.2.1]
        refine go_bipush (nI 12) (pc := 64) dX5_hear_64 (by decide) ?_
        refine go_icmp_lt 71 (pc := 66) dX5_hear_66 (by decide) (fun h66 => ?_) (fun h66 => ?_)
        · first | rw [nI_ltI (by omega) (by omega)] at h66 | rw [zi_ltN (by omega)] at h66 | rw [zi_Nlt (by omega)] at h66 | rw [zi_lt] at h66
          refine go_aload_n (i := 0) (pc := 71) dX5_hear_71 rfl rfl ?_
          refine go_getr2 fl_X5_9 (pc := 72) dX5_hear_72 (by first | rfl | (apply zL_ci <;> assumption) | (apply zR_ci <;> assumption)) (by first | rfl | (apply zL_in <;> first | assumption | decide) | (apply zR_in <;> first | assumption | decide)) (by first | rfl | (apply zL_fr0 <;> assumption) | (apply zL_fr1 <;> assumption) | (apply zR_fr0 <;> assumption) | (apply zR_fr1 <;> assumption) | (apply zR_fr2 <;> assumption) | (apply zR_fr3 <;> assumption)) ?_
          refine go_aload_n (i := 0) (pc := 75) dX5_hear_75 rfl rfl ?_
          refine go_geti fl_X5_16 (pc := 76) dX5_hear_76 (by first | rfl | (apply zL_fi <;> first | assumption | decide) | (apply zR_fi <;> first | assumption | decide)) ?_
          rw [hR.2.1]
          refine go_iload_n (i := 1) (pc := 79) dX5_hear_79 rfl rfl ?_
          refine go_iastore h (pc := 80) dX5_hear_80 rfl rfl rfl (by omega) ?_
          refine go_aload_n (i := 0) (pc := 81) dX5_hear_81 rfl rfl ?_
          refine go_getr2 fl_X5_13 (pc := 82) dX5_hear_82 (by first | rfl | (apply zL_ci <;> assumption) | (apply zR_ci <;> assumption)) (by first | rfl | (apply zL_in <;> first | assumption | decide) | (apply zR_in <;> first | assumption | decide)) (by first | rfl | (apply zL_fr0 <;> assumption) | (apply zL_fr1 <;> assumption) | (apply zR_fr0 <;> assumption) | (apply zR_fr1 <;> assumption) | (apply zR_fr2 <;> assumption) | (apply zR_fr3 <;> assumption)) ?_
          refine go_aload_n (i := 0) (pc := 85) dX5_hear_85 rfl rfl ?_
          refine go_geti fl_X5_16 (pc := 86) dX5_hear_86 (by first | rfl | (apply zL_fi <;> first | assumption | decide) | (apply zR_fi <;> first | assumption | decide)) ?_
          rw [uA_1, hR.2.1]
          refine go_iload_n (i := 2) (pc := 89) dX5_hear_89 rfl rfl ?_
          refine go_iastore h (pc := 90) dX5_hear_90 rfl rfl rfl (by omega) ?_
          refine go_aload_n (i := 0) (pc := 91) dX5_hear_91 rfl rfl ?_
          refine go_dup (pc := 92) dX5_hear_92 rfl ?_
          refine go_geti fl_X5_16 (pc := 93) dX5_hear_93 (by first | rfl | (apply zL_fi <;> first | assumption | decide) | (apply zR_fi <;> first | assumption | decide)) ?_
          rw [uA_1, uA_1, hR.2.1]
          refine go_iconst (nI 1) (pc := 96) dX5_hear_96 (by decide) ?_
          first | with_reducible refine go_iaddN (pc := 97) dX5_hear_97 ?_ | refine go_iadd (pc := 97) dX5_hear_97 ?_
          refine go_puti fp_X5_16 (pc := 98) dX5_hear_98 (by first | rfl | (apply zL_fi <;> first | assumption | decide) | (apply zR_fi <;> first | assumption | decide)) rfl rfl ?_
          refine go_iconst (nI 1) (pc := 101) dX5_hear_101 (by decide) ?_
          refine go_zreturn (pc := 102) dX5_hear_102 rfl (by first | rfl | (apply zb_nar)) ?_
          have hk2 : known w v ∧ h < 12 := ⟨hkn, by omega⟩
          have hwv : (0 ≤ w.toInt ∧ w.toInt ≤ 2) ∧ 0 ≤ v.toInt ∧ v.toInt ≤ 9 := by unfold known at hkn; omega
          refine ⟨zr_t hk2, ?_⟩
          rw [if_pos hk2]
          refine ⟨⟨by omega, by simp [uS_1], fun i hi => ?_⟩, ((FrG.rf.uA (by simp)).uA (by simp)).uS (by simp)⟩
          by_cases e : i = h
          · subst e
            refine ⟨?_, ?_, ?_, ?_⟩
            · rw [uS_2, uA_2, if_neg (by simp), uA_s, upd_at, if_pos rfl, va_at', if_pos rfl]
              exact nI_of' hwv.1.1
            · rw [uS_2, uA_s, upd_at, if_pos rfl, va_at', if_pos rfl]
              exact nI_of' hwv.2.1
            · rw [va_at', if_pos rfl]; omega
            · rw [va_at', if_pos rfl]; omega
          · have hh2 := hR.2.2 i (by omega)
            refine ⟨?_, ?_, ?_, ?_⟩
            · rw [uS_2, uA_2, if_neg (by simp), uA_s, upd_at, if_neg e, va_at', if_neg e]; exact hh2.1
            · rw [uS_2, uA_s, upd_at, if_neg e, va_at', if_neg e, uA_2, if_neg (by simp)]; exact hh2.2.1
            · rw [va_at', if_neg e]; exact hh2.2.2.1
            · rw [va_at', if_neg e]; exact hh2.2.2.2
        · first | rw [nI_ltI (by omega) (by omega)] at h66 | rw [zi_ltN (by omega)] at h66 | rw [zi_Nlt (by omega)] at h66 | rw [zi_lt] at h66
          refine go_iconst (nI 0) (pc := 69) dX5_hear_69 (by decide) ?_
          refine go_zreturn (pc := 70) dX5_hear_70 rfl rfl ?_
          first
            | exact ⟨zr_f (fun q => by have := q.2; omega), by rw [if_neg (fun q => by have := q.2; omega)]⟩
            | exact ⟨zr_f (fun q => hkn q.1), by rw [if_neg (fun q => hkn q.1)]⟩
  refine go_iload_n (i := 1) (pc := 0) dX5_hear_0 rfl rfl ?_
  refine go_if_ne 13 (pc := 1) dX5_hear_1 (by decide) (fun h1 => ?_) (fun h1 => ?_)
  · first | rw [zb_0d] at h1 | rw [zn_eq0 (by omega)] at h1 | rw [zi_eq0] at h1
    refine go_iload_n (i := 1) (pc := 13) dX5_hear_13 rfl rfl ?_
    refine go_iconst (nI 1) (pc := 14) dX5_hear_14 (by decide) ?_
    refine go_icmp_ne 29 (pc := 15) dX5_hear_15 (by decide) (fun h15 => ?_) (fun h15 => ?_)
    · first | rw [nI_eq (by omega) (by omega)] at h15 | rw [zi_eqN (by omega)] at h15 | rw [zi_Neq (by omega)] at h15 | rw [zi_eq] at h15
      refine go_iload_n (i := 1) (pc := 29) dX5_hear_29 rfl rfl ?_
      refine go_iconst (nI 2) (pc := 30) dX5_hear_30 (by decide) ?_
      refine go_icmp_ne 47 (pc := 31) dX5_hear_31 (by decide) (fun h31 => ?_) (fun h31 => ?_)
      · first | rw [nI_eq (by omega) (by omega)] at h31 | rw [zi_eqN (by omega)] at h31 | rw [zi_Neq (by omega)] at h31 | rw [zi_eq] at h31
        refine go_iconst (nI 0) (pc := 47) dX5_hear_47 (by decide) ?_
        first | exact cut true ⟨fun _ => by unfold known; omega, fun _ => rfl⟩ | exact cut false ⟨fun q => absurd q (by decide), fun q => by unfold known at q; omega⟩
      · first | rw [nI_eq (by omega) (by omega)] at h31 | rw [zi_eqN (by omega)] at h31 | rw [zi_Neq (by omega)] at h31 | rw [zi_eq] at h31
        refine go_iload_n (i := 2) (pc := 34) dX5_hear_34 rfl rfl ?_
        refine go_if_lt 47 (pc := 35) dX5_hear_35 (by decide) (fun h35 => ?_) (fun h35 => ?_)
        · first | rw [zb_0d] at h35 | rw [zn_lt0 (by omega)] at h35 | rw [zi_lt0] at h35
          refine go_iconst (nI 0) (pc := 47) dX5_hear_47 (by decide) ?_
          first | exact cut true ⟨fun _ => by unfold known; omega, fun _ => rfl⟩ | exact cut false ⟨fun q => absurd q (by decide), fun q => by unfold known at q; omega⟩
        · first | rw [zb_0d] at h35 | rw [zn_lt0 (by omega)] at h35 | rw [zi_lt0] at h35
          refine go_iload_n (i := 2) (pc := 38) dX5_hear_38 rfl rfl ?_
          refine go_iconst (nI 1) (pc := 39) dX5_hear_39 (by decide) ?_
          refine go_icmp_gt 47 (pc := 40) dX5_hear_40 (by decide) (fun h40 => ?_) (fun h40 => ?_)
          · first | rw [nI_ltI (by omega) (by omega)] at h40 | rw [zi_ltN (by omega)] at h40 | rw [zi_Nlt (by omega)] at h40 | rw [zi_lt] at h40
            refine go_iconst (nI 0) (pc := 47) dX5_hear_47 (by decide) ?_
            first | exact cut true ⟨fun _ => by unfold known; omega, fun _ => rfl⟩ | exact cut false ⟨fun q => absurd q (by decide), fun q => by unfold known at q; omega⟩
          · first | rw [nI_ltI (by omega) (by omega)] at h40 | rw [zi_ltN (by omega)] at h40 | rw [zi_Nlt (by omega)] at h40 | rw [zi_lt] at h40
            refine go_iconst (nI 1) (pc := 43) dX5_hear_43 (by decide) ?_
            refine go_goto 48 (pc := 44) dX5_hear_44 (by decide) ?_
            first | exact cut true ⟨fun _ => by unfold known; omega, fun _ => rfl⟩ | exact cut false ⟨fun q => absurd q (by decide), fun q => by unfold known at q; omega⟩
    · first | rw [nI_eq (by omega) (by omega)] at h15 | rw [zi_eqN (by omega)] at h15 | rw [zi_Neq (by omega)] at h15 | rw [zi_eq] at h15
      refine go_iload_n (i := 2) (pc := 18) dX5_hear_18 rfl rfl ?_
      refine go_iconst (nI 1) (pc := 19) dX5_hear_19 (by decide) ?_
      refine go_icmp_lt 29 (pc := 20) dX5_hear_20 (by decide) (fun h20 => ?_) (fun h20 => ?_)
      · first | rw [nI_ltI (by omega) (by omega)] at h20 | rw [zi_ltN (by omega)] at h20 | rw [zi_Nlt (by omega)] at h20 | rw [zi_lt] at h20
        refine go_iload_n (i := 1) (pc := 29) dX5_hear_29 rfl rfl ?_
        refine go_iconst (nI 2) (pc := 30) dX5_hear_30 (by decide) ?_
        refine go_icmp_ne 47 (pc := 31) dX5_hear_31 (by decide) (fun h31 => ?_) (fun h31 => ?_)
        · first | rw [nI_eq (by omega) (by omega)] at h31 | rw [zi_eqN (by omega)] at h31 | rw [zi_Neq (by omega)] at h31 | rw [zi_eq] at h31
          refine go_iconst (nI 0) (pc := 47) dX5_hear_47 (by decide) ?_
          first | exact cut true ⟨fun _ => by unfold known; omega, fun _ => rfl⟩ | exact cut false ⟨fun q => absurd q (by decide), fun q => by unfold known at q; omega⟩
        · first | rw [nI_eq (by omega) (by omega)] at h31 | rw [zi_eqN (by omega)] at h31 | rw [zi_Neq (by omega)] at h31 | rw [zi_eq] at h31
          refine go_iload_n (i := 2) (pc := 34) dX5_hear_34 rfl rfl ?_
          refine go_if_lt 47 (pc := 35) dX5_hear_35 (by decide) (fun h35 => ?_) (fun h35 => ?_)
          · first | rw [zb_0d] at h35 | rw [zn_lt0 (by omega)] at h35 | rw [zi_lt0] at h35
            refine go_iconst (nI 0) (pc := 47) dX5_hear_47 (by decide) ?_
            first | exact cut true ⟨fun _ => by unfold known; omega, fun _ => rfl⟩ | exact cut false ⟨fun q => absurd q (by decide), fun q => by unfold known at q; omega⟩
          · first | rw [zb_0d] at h35 | rw [zn_lt0 (by omega)] at h35 | rw [zi_lt0] at h35
            refine go_iload_n (i := 2) (pc := 38) dX5_hear_38 rfl rfl ?_
            refine go_iconst (nI 1) (pc := 39) dX5_hear_39 (by decide) ?_
            refine go_icmp_gt 47 (pc := 40) dX5_hear_40 (by decide) (fun h40 => ?_) (fun h40 => ?_)
            · first | rw [nI_ltI (by omega) (by omega)] at h40 | rw [zi_ltN (by omega)] at h40 | rw [zi_Nlt (by omega)] at h40 | rw [zi_lt] at h40
              refine go_iconst (nI 0) (pc := 47) dX5_hear_47 (by decide) ?_
              first | exact cut true ⟨fun _ => by unfold known; omega, fun _ => rfl⟩ | exact cut false ⟨fun q => absurd q (by decide), fun q => by unfold known at q; omega⟩
            · first | rw [nI_ltI (by omega) (by omega)] at h40 | rw [zi_ltN (by omega)] at h40 | rw [zi_Nlt (by omega)] at h40 | rw [zi_lt] at h40
              refine go_iconst (nI 1) (pc := 43) dX5_hear_43 (by decide) ?_
              refine go_goto 48 (pc := 44) dX5_hear_44 (by decide) ?_
              first | exact cut true ⟨fun _ => by unfold known; omega, fun _ => rfl⟩ | exact cut false ⟨fun q => absurd q (by decide), fun q => by unfold known at q; omega⟩
      · first | rw [nI_ltI (by omega) (by omega)] at h20 | rw [zi_ltN (by omega)] at h20 | rw [zi_Nlt (by omega)] at h20 | rw [zi_lt] at h20
        refine go_iload_n (i := 2) (pc := 23) dX5_hear_23 rfl rfl ?_
        refine go_bipush (nI 9) (pc := 24) dX5_hear_24 (by decide) ?_
        refine go_icmp_le 43 (pc := 26) dX5_hear_26 (by decide) (fun h26 => ?_) (fun h26 => ?_)
        · first | rw [nI_leI (by omega) (by omega)] at h26 | rw [zi_leN (by omega)] at h26 | rw [zi_Nle (by omega)] at h26 | rw [zi_le] at h26
          refine go_iconst (nI 1) (pc := 43) dX5_hear_43 (by decide) ?_
          refine go_goto 48 (pc := 44) dX5_hear_44 (by decide) ?_
          first | exact cut true ⟨fun _ => by unfold known; omega, fun _ => rfl⟩ | exact cut false ⟨fun q => absurd q (by decide), fun q => by unfold known at q; omega⟩
        · first | rw [nI_leI (by omega) (by omega)] at h26 | rw [zi_leN (by omega)] at h26 | rw [zi_Nle (by omega)] at h26 | rw [zi_le] at h26
          refine go_iload_n (i := 1) (pc := 29) dX5_hear_29 rfl rfl ?_
          refine go_iconst (nI 2) (pc := 30) dX5_hear_30 (by decide) ?_
          refine go_icmp_ne 47 (pc := 31) dX5_hear_31 (by decide) (fun h31 => ?_) (fun h31 => ?_)
          · first | rw [nI_eq (by omega) (by omega)] at h31 | rw [zi_eqN (by omega)] at h31 | rw [zi_Neq (by omega)] at h31 | rw [zi_eq] at h31
            refine go_iconst (nI 0) (pc := 47) dX5_hear_47 (by decide) ?_
            first | exact cut true ⟨fun _ => by unfold known; omega, fun _ => rfl⟩ | exact cut false ⟨fun q => absurd q (by decide), fun q => by unfold known at q; omega⟩
          · first | rw [nI_eq (by omega) (by omega)] at h31 | rw [zi_eqN (by omega)] at h31 | rw [zi_Neq (by omega)] at h31 | rw [zi_eq] at h31
            refine go_iload_n (i := 2) (pc := 34) dX5_hear_34 rfl rfl ?_
            refine go_if_lt 47 (pc := 35) dX5_hear_35 (by decide) (fun h35 => ?_) (fun h35 => ?_)
            · first | rw [zb_0d] at h35 | rw [zn_lt0 (by omega)] at h35 | rw [zi_lt0] at h35
              refine go_iconst (nI 0) (pc := 47) dX5_hear_47 (by decide) ?_
              first | exact cut true ⟨fun _ => by unfold known; omega, fun _ => rfl⟩ | exact cut false ⟨fun q => absurd q (by decide), fun q => by unfold known at q; omega⟩
            · first | rw [zb_0d] at h35 | rw [zn_lt0 (by omega)] at h35 | rw [zi_lt0] at h35
              refine go_iload_n (i := 2) (pc := 38) dX5_hear_38 rfl rfl ?_
              refine go_iconst (nI 1) (pc := 39) dX5_hear_39 (by decide) ?_
              refine go_icmp_gt 47 (pc := 40) dX5_hear_40 (by decide) (fun h40 => ?_) (fun h40 => ?_)
              · first | rw [nI_ltI (by omega) (by omega)] at h40 | rw [zi_ltN (by omega)] at h40 | rw [zi_Nlt (by omega)] at h40 | rw [zi_lt] at h40
                refine go_iconst (nI 0) (pc := 47) dX5_hear_47 (by decide) ?_
                first | exact cut true ⟨fun _ => by unfold known; omega, fun _ => rfl⟩ | exact cut false ⟨fun q => absurd q (by decide), fun q => by unfold known at q; omega⟩
              · first | rw [nI_ltI (by omega) (by omega)] at h40 | rw [zi_ltN (by omega)] at h40 | rw [zi_Nlt (by omega)] at h40 | rw [zi_lt] at h40
                refine go_iconst (nI 1) (pc := 43) dX5_hear_43 (by decide) ?_
                refine go_goto 48 (pc := 44) dX5_hear_44 (by decide) ?_
                first | exact cut true ⟨fun _ => by unfold known; omega, fun _ => rfl⟩ | exact cut false ⟨fun q => absurd q (by decide), fun q => by unfold known at q; omega⟩
  · first | rw [zb_0d] at h1 | rw [zn_eq0 (by omega)] at h1 | rw [zi_eq0] at h1
    refine go_iload_n (i := 2) (pc := 4) dX5_hear_4 rfl rfl ?_
    refine go_if_lt 13 (pc := 5) dX5_hear_5 (by decide) (fun h5 => ?_) (fun h5 => ?_)
    · first | rw [zb_0d] at h5 | rw [zn_lt0 (by omega)] at h5 | rw [zi_lt0] at h5
      refine go_iload_n (i := 1) (pc := 13) dX5_hear_13 rfl rfl ?_
      refine go_iconst (nI 1) (pc := 14) dX5_hear_14 (by decide) ?_
      refine go_icmp_ne 29 (pc := 15) dX5_hear_15 (by decide) (fun h15 => ?_) (fun h15 => ?_)
      · first | rw [nI_eq (by omega) (by omega)] at h15 | rw [zi_eqN (by omega)] at h15 | rw [zi_Neq (by omega)] at h15 | rw [zi_eq] at h15
        refine go_iload_n (i := 1) (pc := 29) dX5_hear_29 rfl rfl ?_
        refine go_iconst (nI 2) (pc := 30) dX5_hear_30 (by decide) ?_
        refine go_icmp_ne 47 (pc := 31) dX5_hear_31 (by decide) (fun h31 => ?_) (fun h31 => ?_)
        · first | rw [nI_eq (by omega) (by omega)] at h31 | rw [zi_eqN (by omega)] at h31 | rw [zi_Neq (by omega)] at h31 | rw [zi_eq] at h31
          refine go_iconst (nI 0) (pc := 47) dX5_hear_47 (by decide) ?_
          first | exact cut true ⟨fun _ => by unfold known; omega, fun _ => rfl⟩ | exact cut false ⟨fun q => absurd q (by decide), fun q => by unfold known at q; omega⟩
        · first | rw [nI_eq (by omega) (by omega)] at h31 | rw [zi_eqN (by omega)] at h31 | rw [zi_Neq (by omega)] at h31 | rw [zi_eq] at h31
          refine go_iload_n (i := 2) (pc := 34) dX5_hear_34 rfl rfl ?_
          refine go_if_lt 47 (pc := 35) dX5_hear_35 (by decide) (fun h35 => ?_) (fun h35 => ?_)
          · first | rw [zb_0d] at h35 | rw [zn_lt0 (by omega)] at h35 | rw [zi_lt0] at h35
            refine go_iconst (nI 0) (pc := 47) dX5_hear_47 (by decide) ?_
            first | exact cut true ⟨fun _ => by unfold known; omega, fun _ => rfl⟩ | exact cut false ⟨fun q => absurd q (by decide), fun q => by unfold known at q; omega⟩
          · first | rw [zb_0d] at h35 | rw [zn_lt0 (by omega)] at h35 | rw [zi_lt0] at h35
            refine go_iload_n (i := 2) (pc := 38) dX5_hear_38 rfl rfl ?_
            refine go_iconst (nI 1) (pc := 39) dX5_hear_39 (by decide) ?_
            refine go_icmp_gt 47 (pc := 40) dX5_hear_40 (by decide) (fun h40 => ?_) (fun h40 => ?_)
            · first | rw [nI_ltI (by omega) (by omega)] at h40 | rw [zi_ltN (by omega)] at h40 | rw [zi_Nlt (by omega)] at h40 | rw [zi_lt] at h40
              refine go_iconst (nI 0) (pc := 47) dX5_hear_47 (by decide) ?_
              first | exact cut true ⟨fun _ => by unfold known; omega, fun _ => rfl⟩ | exact cut false ⟨fun q => absurd q (by decide), fun q => by unfold known at q; omega⟩
            · first | rw [nI_ltI (by omega) (by omega)] at h40 | rw [zi_ltN (by omega)] at h40 | rw [zi_Nlt (by omega)] at h40 | rw [zi_lt] at h40
              refine go_iconst (nI 1) (pc := 43) dX5_hear_43 (by decide) ?_
              refine go_goto 48 (pc := 44) dX5_hear_44 (by decide) ?_
              first | exact cut true ⟨fun _ => by unfold known; omega, fun _ => rfl⟩ | exact cut false ⟨fun q => absurd q (by decide), fun q => by unfold known at q; omega⟩
      · first | rw [nI_eq (by omega) (by omega)] at h15 | rw [zi_eqN (by omega)] at h15 | rw [zi_Neq (by omega)] at h15 | rw [zi_eq] at h15
        refine go_iload_n (i := 2) (pc := 18) dX5_hear_18 rfl rfl ?_
        refine go_iconst (nI 1) (pc := 19) dX5_hear_19 (by decide) ?_
        refine go_icmp_lt 29 (pc := 20) dX5_hear_20 (by decide) (fun h20 => ?_) (fun h20 => ?_)
        · first | rw [nI_ltI (by omega) (by omega)] at h20 | rw [zi_ltN (by omega)] at h20 | rw [zi_Nlt (by omega)] at h20 | rw [zi_lt] at h20
          refine go_iload_n (i := 1) (pc := 29) dX5_hear_29 rfl rfl ?_
          refine go_iconst (nI 2) (pc := 30) dX5_hear_30 (by decide) ?_
          refine go_icmp_ne 47 (pc := 31) dX5_hear_31 (by decide) (fun h31 => ?_) (fun h31 => ?_)
          · first | rw [nI_eq (by omega) (by omega)] at h31 | rw [zi_eqN (by omega)] at h31 | rw [zi_Neq (by omega)] at h31 | rw [zi_eq] at h31
            refine go_iconst (nI 0) (pc := 47) dX5_hear_47 (by decide) ?_
            first | exact cut true ⟨fun _ => by unfold known; omega, fun _ => rfl⟩ | exact cut false ⟨fun q => absurd q (by decide), fun q => by unfold known at q; omega⟩
          · first | rw [nI_eq (by omega) (by omega)] at h31 | rw [zi_eqN (by omega)] at h31 | rw [zi_Neq (by omega)] at h31 | rw [zi_eq] at h31
            refine go_iload_n (i := 2) (pc := 34) dX5_hear_34 rfl rfl ?_
            refine go_if_lt 47 (pc := 35) dX5_hear_35 (by decide) (fun h35 => ?_) (fun h35 => ?_)
            · first | rw [zb_0d] at h35 | rw [zn_lt0 (by omega)] at h35 | rw [zi_lt0] at h35
              refine go_iconst (nI 0) (pc := 47) dX5_hear_47 (by decide) ?_
              first | exact cut true ⟨fun _ => by unfold known; omega, fun _ => rfl⟩ | exact cut false ⟨fun q => absurd q (by decide), fun q => by unfold known at q; omega⟩
            · first | rw [zb_0d] at h35 | rw [zn_lt0 (by omega)] at h35 | rw [zi_lt0] at h35
              refine go_iload_n (i := 2) (pc := 38) dX5_hear_38 rfl rfl ?_
              refine go_iconst (nI 1) (pc := 39) dX5_hear_39 (by decide) ?_
              refine go_icmp_gt 47 (pc := 40) dX5_hear_40 (by decide) (fun h40 => ?_) (fun h40 => ?_)
              · first | rw [nI_ltI (by omega) (by omega)] at h40 | rw [zi_ltN (by omega)] at h40 | rw [zi_Nlt (by omega)] at h40 | rw [zi_lt] at h40
                refine go_iconst (nI 0) (pc := 47) dX5_hear_47 (by decide) ?_
                first | exact cut true ⟨fun _ => by unfold known; omega, fun _ => rfl⟩ | exact cut false ⟨fun q => absurd q (by decide), fun q => by unfold known at q; omega⟩
              · first | rw [nI_ltI (by omega) (by omega)] at h40 | rw [zi_ltN (by omega)] at h40 | rw [zi_Nlt (by omega)] at h40 | rw [zi_lt] at h40
                refine go_iconst (nI 1) (pc := 43) dX5_hear_43 (by decide) ?_
                refine go_goto 48 (pc := 44) dX5_hear_44 (by decide) ?_
                first | exact cut true ⟨fun _ => by unfold known; omega, fun _ => rfl⟩ | exact cut false ⟨fun q => absurd q (by decide), fun q => by unfold known at q; omega⟩
        · first | rw [nI_ltI (by omega) (by omega)] at h20 | rw [zi_ltN (by omega)] at h20 | rw [zi_Nlt (by omega)] at h20 | rw [zi_lt] at h20
          refine go_iload_n (i := 2) (pc := 23) dX5_hear_23 rfl rfl ?_
          refine go_bipush (nI 9) (pc := 24) dX5_hear_24 (by decide) ?_
          refine go_icmp_le 43 (pc := 26) dX5_hear_26 (by decide) (fun h26 => ?_) (fun h26 => ?_)
          · first | rw [nI_leI (by omega) (by omega)] at h26 | rw [zi_leN (by omega)] at h26 | rw [zi_Nle (by omega)] at h26 | rw [zi_le] at h26
            refine go_iconst (nI 1) (pc := 43) dX5_hear_43 (by decide) ?_
            refine go_goto 48 (pc := 44) dX5_hear_44 (by decide) ?_
            first | exact cut true ⟨fun _ => by unfold known; omega, fun _ => rfl⟩ | exact cut false ⟨fun q => absurd q (by decide), fun q => by unfold known at q; omega⟩
          · first | rw [nI_leI (by omega) (by omega)] at h26 | rw [zi_leN (by omega)] at h26 | rw [zi_Nle (by omega)] at h26 | rw [zi_le] at h26
            refine go_iload_n (i := 1) (pc := 29) dX5_hear_29 rfl rfl ?_
            refine go_iconst (nI 2) (pc := 30) dX5_hear_30 (by decide) ?_
            refine go_icmp_ne 47 (pc := 31) dX5_hear_31 (by decide) (fun h31 => ?_) (fun h31 => ?_)
            · first | rw [nI_eq (by omega) (by omega)] at h31 | rw [zi_eqN (by omega)] at h31 | rw [zi_Neq (by omega)] at h31 | rw [zi_eq] at h31
              refine go_iconst (nI 0) (pc := 47) dX5_hear_47 (by decide) ?_
              first | exact cut true ⟨fun _ => by unfold known; omega, fun _ => rfl⟩ | exact cut false ⟨fun q => absurd q (by decide), fun q => by unfold known at q; omega⟩
            · first | rw [nI_eq (by omega) (by omega)] at h31 | rw [zi_eqN (by omega)] at h31 | rw [zi_Neq (by omega)] at h31 | rw [zi_eq] at h31
              refine go_iload_n (i := 2) (pc := 34) dX5_hear_34 rfl rfl ?_
              refine go_if_lt 47 (pc := 35) dX5_hear_35 (by decide) (fun h35 => ?_) (fun h35 => ?_)
              · first | rw [zb_0d] at h35 | rw [zn_lt0 (by omega)] at h35 | rw [zi_lt0] at h35
                refine go_iconst (nI 0) (pc := 47) dX5_hear_47 (by decide) ?_
                first | exact cut true ⟨fun _ => by unfold known; omega, fun _ => rfl⟩ | exact cut false ⟨fun q => absurd q (by decide), fun q => by unfold known at q; omega⟩
              · first | rw [zb_0d] at h35 | rw [zn_lt0 (by omega)] at h35 | rw [zi_lt0] at h35
                refine go_iload_n (i := 2) (pc := 38) dX5_hear_38 rfl rfl ?_
                refine go_iconst (nI 1) (pc := 39) dX5_hear_39 (by decide) ?_
                refine go_icmp_gt 47 (pc := 40) dX5_hear_40 (by decide) (fun h40 => ?_) (fun h40 => ?_)
                · first | rw [nI_ltI (by omega) (by omega)] at h40 | rw [zi_ltN (by omega)] at h40 | rw [zi_Nlt (by omega)] at h40 | rw [zi_lt] at h40
                  refine go_iconst (nI 0) (pc := 47) dX5_hear_47 (by decide) ?_
                  first | exact cut true ⟨fun _ => by unfold known; omega, fun _ => rfl⟩ | exact cut false ⟨fun q => absurd q (by decide), fun q => by unfold known at q; omega⟩
                · first | rw [nI_ltI (by omega) (by omega)] at h40 | rw [zi_ltN (by omega)] at h40 | rw [zi_Nlt (by omega)] at h40 | rw [zi_lt] at h40
                  refine go_iconst (nI 1) (pc := 43) dX5_hear_43 (by decide) ?_
                  refine go_goto 48 (pc := 44) dX5_hear_44 (by decide) ?_
                  first | exact cut true ⟨fun _ => by unfold known; omega, fun _ => rfl⟩ | exact cut false ⟨fun q => absurd q (by decide), fun q => by unfold known at q; omega⟩
    · first | rw [zb_0d] at h5 | rw [zn_lt0 (by omega)] at h5 | rw [zi_lt0] at h5
      refine go_iload_n (i := 2) (pc := 8) dX5_hear_8 rfl rfl ?_
      refine go_iconst (nI 4) (pc := 9) dX5_hear_9 (by decide) ?_
      refine go_icmp_le 43 (pc := 10) dX5_hear_10 (by decide) (fun h10 => ?_) (fun h10 => ?_)
      · first | rw [nI_leI (by omega) (by omega)] at h10 | rw [zi_leN (by omega)] at h10 | rw [zi_Nle (by omega)] at h10 | rw [zi_le] at h10
        refine go_iconst (nI 1) (pc := 43) dX5_hear_43 (by decide) ?_
        refine go_goto 48 (pc := 44) dX5_hear_44 (by decide) ?_
        first | exact cut true ⟨fun _ => by unfold known; omega, fun _ => rfl⟩ | exact cut false ⟨fun q => absurd q (by decide), fun q => by unfold known at q; omega⟩
      · first | rw [nI_leI (by omega) (by omega)] at h10 | rw [zi_leN (by omega)] at h10 | rw [zi_Nle (by omega)] at h10 | rw [zi_le] at h10
        refine go_iload_n (i := 1) (pc := 13) dX5_hear_13 rfl rfl ?_
        refine go_iconst (nI 1) (pc := 14) dX5_hear_14 (by decide) ?_
        refine go_icmp_ne 29 (pc := 15) dX5_hear_15 (by decide) (fun h15 => ?_) (fun h15 => ?_)
        · first | rw [nI_eq (by omega) (by omega)] at h15 | rw [zi_eqN (by omega)] at h15 | rw [zi_Neq (by omega)] at h15 | rw [zi_eq] at h15
          refine go_iload_n (i := 1) (pc := 29) dX5_hear_29 rfl rfl ?_
          refine go_iconst (nI 2) (pc := 30) dX5_hear_30 (by decide) ?_
          refine go_icmp_ne 47 (pc := 31) dX5_hear_31 (by decide) (fun h31 => ?_) (fun h31 => ?_)
          · first | rw [nI_eq (by omega) (by omega)] at h31 | rw [zi_eqN (by omega)] at h31 | rw [zi_Neq (by omega)] at h31 | rw [zi_eq] at h31
            refine go_iconst (nI 0) (pc := 47) dX5_hear_47 (by decide) ?_
            first | exact cut true ⟨fun _ => by unfold known; omega, fun _ => rfl⟩ | exact cut false ⟨fun q => absurd q (by decide), fun q => by unfold known at q; omega⟩
          · first | rw [nI_eq (by omega) (by omega)] at h31 | rw [zi_eqN (by omega)] at h31 | rw [zi_Neq (by omega)] at h31 | rw [zi_eq] at h31
            refine go_iload_n (i := 2) (pc := 34) dX5_hear_34 rfl rfl ?_
            refine go_if_lt 47 (pc := 35) dX5_hear_35 (by decide) (fun h35 => ?_) (fun h35 => ?_)
            · first | rw [zb_0d] at h35 | rw [zn_lt0 (by omega)] at h35 | rw [zi_lt0] at h35
              refine go_iconst (nI 0) (pc := 47) dX5_hear_47 (by decide) ?_
              first | exact cut true ⟨fun _ => by unfold known; omega, fun _ => rfl⟩ | exact cut false ⟨fun q => absurd q (by decide), fun q => by unfold known at q; omega⟩
            · first | rw [zb_0d] at h35 | rw [zn_lt0 (by omega)] at h35 | rw [zi_lt0] at h35
              refine go_iload_n (i := 2) (pc := 38) dX5_hear_38 rfl rfl ?_
              refine go_iconst (nI 1) (pc := 39) dX5_hear_39 (by decide) ?_
              refine go_icmp_gt 47 (pc := 40) dX5_hear_40 (by decide) (fun h40 => ?_) (fun h40 => ?_)
              · first | rw [nI_ltI (by omega) (by omega)] at h40 | rw [zi_ltN (by omega)] at h40 | rw [zi_Nlt (by omega)] at h40 | rw [zi_lt] at h40
                refine go_iconst (nI 0) (pc := 47) dX5_hear_47 (by decide) ?_
                first | exact cut true ⟨fun _ => by unfold known; omega, fun _ => rfl⟩ | exact cut false ⟨fun q => absurd q (by decide), fun q => by unfold known at q; omega⟩
              · first | rw [nI_ltI (by omega) (by omega)] at h40 | rw [zi_ltN (by omega)] at h40 | rw [zi_Nlt (by omega)] at h40 | rw [zi_lt] at h40
                refine go_iconst (nI 1) (pc := 43) dX5_hear_43 (by decide) ?_
                refine go_goto 48 (pc := 44) dX5_hear_44 (by decide) ?_
                first | exact cut true ⟨fun _ => by unfold known; omega, fun _ => rfl⟩ | exact cut false ⟨fun q => absurd q (by decide), fun q => by unfold known at q; omega⟩
        · first | rw [nI_eq (by omega) (by omega)] at h15 | rw [zi_eqN (by omega)] at h15 | rw [zi_Neq (by omega)] at h15 | rw [zi_eq] at h15
          refine go_iload_n (i := 2) (pc := 18) dX5_hear_18 rfl rfl ?_
          refine go_iconst (nI 1) (pc := 19) dX5_hear_19 (by decide) ?_
          refine go_icmp_lt 29 (pc := 20) dX5_hear_20 (by decide) (fun h20 => ?_) (fun h20 => ?_)
          · first | rw [nI_ltI (by omega) (by omega)] at h20 | rw [zi_ltN (by omega)] at h20 | rw [zi_Nlt (by omega)] at h20 | rw [zi_lt] at h20
            refine go_iload_n (i := 1) (pc := 29) dX5_hear_29 rfl rfl ?_
            refine go_iconst (nI 2) (pc := 30) dX5_hear_30 (by decide) ?_
            refine go_icmp_ne 47 (pc := 31) dX5_hear_31 (by decide) (fun h31 => ?_) (fun h31 => ?_)
            · first | rw [nI_eq (by omega) (by omega)] at h31 | rw [zi_eqN (by omega)] at h31 | rw [zi_Neq (by omega)] at h31 | rw [zi_eq] at h31
              refine go_iconst (nI 0) (pc := 47) dX5_hear_47 (by decide) ?_
              first | exact cut true ⟨fun _ => by unfold known; omega, fun _ => rfl⟩ | exact cut false ⟨fun q => absurd q (by decide), fun q => by unfold known at q; omega⟩
            · first | rw [nI_eq (by omega) (by omega)] at h31 | rw [zi_eqN (by omega)] at h31 | rw [zi_Neq (by omega)] at h31 | rw [zi_eq] at h31
              refine go_iload_n (i := 2) (pc := 34) dX5_hear_34 rfl rfl ?_
              refine go_if_lt 47 (pc := 35) dX5_hear_35 (by decide) (fun h35 => ?_) (fun h35 => ?_)
              · first | rw [zb_0d] at h35 | rw [zn_lt0 (by omega)] at h35 | rw [zi_lt0] at h35
                refine go_iconst (nI 0) (pc := 47) dX5_hear_47 (by decide) ?_
                first | exact cut true ⟨fun _ => by unfold known; omega, fun _ => rfl⟩ | exact cut false ⟨fun q => absurd q (by decide), fun q => by unfold known at q; omega⟩
              · first | rw [zb_0d] at h35 | rw [zn_lt0 (by omega)] at h35 | rw [zi_lt0] at h35
                refine go_iload_n (i := 2) (pc := 38) dX5_hear_38 rfl rfl ?_
                refine go_iconst (nI 1) (pc := 39) dX5_hear_39 (by decide) ?_
                refine go_icmp_gt 47 (pc := 40) dX5_hear_40 (by decide) (fun h40 => ?_) (fun h40 => ?_)
                · first | rw [nI_ltI (by omega) (by omega)] at h40 | rw [zi_ltN (by omega)] at h40 | rw [zi_Nlt (by omega)] at h40 | rw [zi_lt] at h40
                  refine go_iconst (nI 0) (pc := 47) dX5_hear_47 (by decide) ?_
                  first | exact cut true ⟨fun _ => by unfold known; omega, fun _ => rfl⟩ | exact cut false ⟨fun q => absurd q (by decide), fun q => by unfold known at q; omega⟩
                · first | rw [nI_ltI (by omega) (by omega)] at h40 | rw [zi_ltN (by omega)] at h40 | rw [zi_Nlt (by omega)] at h40 | rw [zi_lt] at h40
                  refine go_iconst (nI 1) (pc := 43) dX5_hear_43 (by decide) ?_
                  refine go_goto 48 (pc := 44) dX5_hear_44 (by decide) ?_
                  first | exact cut true ⟨fun _ => by unfold known; omega, fun _ => rfl⟩ | exact cut false ⟨fun q => absurd q (by decide), fun q => by unfold known at q; omega⟩
          · first | rw [nI_ltI (by omega) (by omega)] at h20 | rw [zi_ltN (by omega)] at h20 | rw [zi_Nlt (by omega)] at h20 | rw [zi_lt] at h20
            refine go_iload_n (i := 2) (pc := 23) dX5_hear_23 rfl rfl ?_
            refine go_bipush (nI 9) (pc := 24) dX5_hear_24 (by decide) ?_
            refine go_icmp_le 43 (pc := 26) dX5_hear_26 (by decide) (fun h26 => ?_) (fun h26 => ?_)
            · first | rw [nI_leI (by omega) (by omega)] at h26 | rw [zi_leN (by omega)] at h26 | rw [zi_Nle (by omega)] at h26 | rw [zi_le] at h26
              refine go_iconst (nI 1) (pc := 43) dX5_hear_43 (by decide) ?_
              refine go_goto 48 (pc := 44) dX5_hear_44 (by decide) ?_
              first | exact cut true ⟨fun _ => by unfold known; omega, fun _ => rfl⟩ | exact cut false ⟨fun q => absurd q (by decide), fun q => by unfold known at q; omega⟩
            · first | rw [nI_leI (by omega) (by omega)] at h26 | rw [zi_leN (by omega)] at h26 | rw [zi_Nle (by omega)] at h26 | rw [zi_le] at h26
              refine go_iload_n (i := 1) (pc := 29) dX5_hear_29 rfl rfl ?_
              refine go_iconst (nI 2) (pc := 30) dX5_hear_30 (by decide) ?_
              refine go_icmp_ne 47 (pc := 31) dX5_hear_31 (by decide) (fun h31 => ?_) (fun h31 => ?_)
              · first | rw [nI_eq (by omega) (by omega)] at h31 | rw [zi_eqN (by omega)] at h31 | rw [zi_Neq (by omega)] at h31 | rw [zi_eq] at h31
                refine go_iconst (nI 0) (pc := 47) dX5_hear_47 (by decide) ?_
                first | exact cut true ⟨fun _ => by unfold known; omega, fun _ => rfl⟩ | exact cut false ⟨fun q => absurd q (by decide), fun q => by unfold known at q; omega⟩
              · first | rw [nI_eq (by omega) (by omega)] at h31 | rw [zi_eqN (by omega)] at h31 | rw [zi_Neq (by omega)] at h31 | rw [zi_eq] at h31
                refine go_iload_n (i := 2) (pc := 34) dX5_hear_34 rfl rfl ?_
                refine go_if_lt 47 (pc := 35) dX5_hear_35 (by decide) (fun h35 => ?_) (fun h35 => ?_)
                · first | rw [zb_0d] at h35 | rw [zn_lt0 (by omega)] at h35 | rw [zi_lt0] at h35
                  refine go_iconst (nI 0) (pc := 47) dX5_hear_47 (by decide) ?_
                  first | exact cut true ⟨fun _ => by unfold known; omega, fun _ => rfl⟩ | exact cut false ⟨fun q => absurd q (by decide), fun q => by unfold known at q; omega⟩
                · first | rw [zb_0d] at h35 | rw [zn_lt0 (by omega)] at h35 | rw [zi_lt0] at h35
                  refine go_iload_n (i := 2) (pc := 38) dX5_hear_38 rfl rfl ?_
                  refine go_iconst (nI 1) (pc := 39) dX5_hear_39 (by decide) ?_
                  refine go_icmp_gt 47 (pc := 40) dX5_hear_40 (by decide) (fun h40 => ?_) (fun h40 => ?_)
                  · first | rw [nI_ltI (by omega) (by omega)] at h40 | rw [zi_ltN (by omega)] at h40 | rw [zi_Nlt (by omega)] at h40 | rw [zi_lt] at h40
                    refine go_iconst (nI 0) (pc := 47) dX5_hear_47 (by decide) ?_
                    first | exact cut true ⟨fun _ => by unfold known; omega, fun _ => rfl⟩ | exact cut false ⟨fun q => absurd q (by decide), fun q => by unfold known at q; omega⟩
                  · first | rw [nI_ltI (by omega) (by omega)] at h40 | rw [zi_ltN (by omega)] at h40 | rw [zi_Nlt (by omega)] at h40 | rw [zi_lt] at h40
                    refine go_iconst (nI 1) (pc := 43) dX5_hear_43 (by decide) ?_
                    refine go_goto 48 (pc := 44) dX5_hear_44 (by decide) ?_
                    first | exact cut true ⟨fun _ => by unfold known; omega, fun _ => rfl⟩ | exact cut false ⟨fun q => absurd q (by decide), fun q => by unfold known at q; omega⟩

theorem c_X5_allow {E : zE} {σ : zT} {h : Nat} {wh vl : Nat → Nat} {kd ld : Nat} {go : Bool} (hR : RumIs σ h wh vl) (hkd : kd < 2 ^ 31) (hld : ld < 2 ^ 31) : CalM E 0 yX5_allow cX5_allow 7 (some .boolean) [.ref (zA E 29 0), .int (nI kd), .int (nI ld), .int (zb go)] σ (fun r σ' => r = some (.int (zb (fitA wh vl kd ld go h))) ∧ σ' = σ) := by
  refine cal_of_go (own := RX5) rfl (by decide +kernel) (Nat.le_of_ble_eq_true rfl) ?_
  have hh := hR.1
  have neg : ∀ i, i < h → fit1 (wh i) (vl i) kd ld go = false → fitA wh vl kd ld go h = false := by
    intro i hi hf
    have : ∀ j, fitA wh vl kd ld go (i + 1 + j) = false := by
      intro j
      induction j with
      | zero => rw [Nat.add_zero, fitA, hf, Bool.and_false]
      | succ j ih => rw [← Nat.add_assoc, fitA, ih, Bool.false_and]
    rw [show h = i + 1 + (h - i - 1) by omega]
    exact this _
  have loop : ∀ i : Nat, i ≤ h → fitA wh vl kd ld go i = true → GoM E 0 RX5 cX5_allow 7 (some .boolean) (fun r σ' => r = some (.int (zb (fitA wh vl kd ld go h))) ∧ σ' = σ) σ 3 [(0, .ref (zA E 29 0)), (1, .int (nI kd)), (2, .int (nI ld)), (3, .int (zb go)), (4, .int (nI i))] [] := by
    intro i
    induction hj : h - i using Nat.strongRecOn generalizing i with
    | ind j ih =>
      intro hi hft
      refine go_iload (pc := 3) dX5_allow_3 rfl ?_
      refine go_aload_n (i := 0) (pc := 5) dX5_allow_5 rfl rfl ?_
      refine go_geti fl_X5_16 (pc := 6) dX5_allow_6 (by first | rfl | (apply zL_fi <;> first | assumption | decide) | (apply zR_fi <;> first | assumption | decide)) ?_
      rw [hR.2.1]
      refine go_icmp_ge 112 (pc := 9) dX5_allow_9 (by decide) (fun h9 => ?_) (fun h9 => ?_)
      · first | rw [nI_leI (by omega) (by omega)] at h9 | rw [zi_leN (by omega)] at h9 | rw [zi_Nle (by omega)] at h9 | rw [zi_le] at h9
        have e : i = h := by omega
        subst e
        refine go_iconst (nI 1) (pc := 112) dX5_allow_112 (by decide) ?_
        refine go_zreturn (pc := 113) dX5_allow_113 rfl rfl ?_
        exact ⟨by rw [hft]; rfl, rfl⟩
      · first | rw [nI_leI (by omega) (by omega)] at h9 | rw [zi_leN (by omega)] at h9 | rw [zi_Nle (by omega)] at h9 | rw [zi_le] at h9
        refine go_iload (pc := 12) dX5_allow_12 rfl ?_
        refine go_bipush (nI 12) (pc := 14) dX5_allow_14 (by decide) ?_
        refine go_icmp_ge 112 (pc := 16) dX5_allow_16 (by decide) (fun h16 => ?_) (fun h16 => ?_)
        · first | rw [nI_leI (by omega) (by omega)] at h16 | rw [zi_leN (by omega)] at h16 | rw [zi_Nle (by omega)] at h16 | rw [zi_le] at h16
          omega
        · first | rw [nI_leI (by omega) (by omega)] at h16 | rw [zi_leN (by omega)] at h16 | rw [zi_Nle (by omega)] at h16 | rw [zi_le] at h16
          refine go_aload_n (i := 0) (pc := 19) dX5_allow_19 rfl rfl ?_
          refine go_getr2 fl_X5_13 (pc := 20) dX5_allow_20 (by first | rfl | (apply zL_ci <;> assumption) | (apply zR_ci <;> assumption)) (by first | rfl | (apply zL_in <;> first | assumption | decide) | (apply zR_in <;> first | assumption | decide)) (by first | rfl | (apply zL_fr0 <;> assumption) | (apply zL_fr1 <;> assumption) | (apply zR_fr0 <;> assumption) | (apply zR_fr1 <;> assumption) | (apply zR_fr2 <;> assumption) | (apply zR_fr3 <;> assumption)) ?_
          refine go_iload (pc := 23) dX5_allow_23 rfl ?_
          refine go_iaload _ (pc := 25) dX5_allow_25 (by first | rfl | (apply zL_ar1 <;> assumption) | (apply zL_ar2 <;> assumption) | (apply zR_ar1 <;> assumption) | (apply zR_ar2 <;> assumption) | (apply zR_ar3 <;> assumption) | (apply zR_ar4 <;> assumption)) (by first | rfl | (apply zL_jn <;> first | assumption | decide) | (apply zR_jn <;> first | assumption | decide)) rfl (by first | assumption | omega) ?_
          have hq := hR.2.2 i (by omega)
          rw [hq.2.1]
          refine go_istore (pc := 26) dX5_allow_26 (by decide) ?_
          refine go_aload_n (i := 0) (pc := 28) dX5_allow_28 rfl rfl ?_
          refine go_getr2 fl_X5_9 (pc := 29) dX5_allow_29 (by first | rfl | (apply zL_ci <;> assumption) | (apply zR_ci <;> assumption)) (by first | rfl | (apply zL_in <;> first | assumption | decide) | (apply zR_in <;> first | assumption | decide)) (by first | rfl | (apply zL_fr0 <;> assumption) | (apply zL_fr1 <;> assumption) | (apply zR_fr0 <;> assumption) | (apply zR_fr1 <;> assumption) | (apply zR_fr2 <;> assumption) | (apply zR_fr3 <;> assumption)) ?_
          refine go_iload (pc := 32) dX5_allow_32 rfl ?_
          refine go_iaload _ (pc := 34) dX5_allow_34 (by first | rfl | (apply zL_ar1 <;> assumption) | (apply zL_ar2 <;> assumption) | (apply zR_ar1 <;> assumption) | (apply zR_ar2 <;> assumption) | (apply zR_ar3 <;> assumption) | (apply zR_ar4 <;> assumption)) (by first | rfl | (apply zL_jn <;> first | assumption | decide) | (apply zR_jn <;> first | assumption | decide)) rfl (by first | assumption | omega) ?_
          rw [hq.1]
          refine go_if_ne 52 (pc := 35) dX5_allow_35 (by decide) (fun h35 => ?_) (fun h35 => ?_)
          · first | rw [zb_0d] at h35 | rw [zn_eq0 (by omega)] at h35 | rw [zi_eq0] at h35
            refine go_aload_n (i := 0) (pc := 52) dX5_allow_52 rfl rfl ?_
            refine go_getr2 fl_X5_9 (pc := 53) dX5_allow_53 (by first | rfl | (apply zL_ci <;> assumption) | (apply zR_ci <;> assumption)) (by first | rfl | (apply zL_in <;> first | assumption | decide) | (apply zR_in <;> first | assumption | decide)) (by first | rfl | (apply zL_fr0 <;> assumption) | (apply zL_fr1 <;> assumption) | (apply zR_fr0 <;> assumption) | (apply zR_fr1 <;> assumption) | (apply zR_fr2 <;> assumption) | (apply zR_fr3 <;> assumption)) ?_
            refine go_iload (pc := 56) dX5_allow_56 rfl ?_
            refine go_iaload _ (pc := 58) dX5_allow_58 (by first | rfl | (apply zL_ar1 <;> assumption) | (apply zL_ar2 <;> assumption) | (apply zR_ar1 <;> assumption) | (apply zR_ar2 <;> assumption) | (apply zR_ar3 <;> assumption) | (apply zR_ar4 <;> assumption)) (by first | rfl | (apply zL_jn <;> first | assumption | decide) | (apply zR_jn <;> first | assumption | decide)) rfl (by first | assumption | omega) ?_
            rw [hq.1]
            refine go_iconst (nI 1) (pc := 59) dX5_allow_59 (by decide) ?_
            refine go_icmp_ne 77 (pc := 60) dX5_allow_60 (by decide) (fun h60 => ?_) (fun h60 => ?_)
            · first | rw [nI_eq (by omega) (by omega)] at h60 | rw [zi_eqN (by omega)] at h60 | rw [zi_Neq (by omega)] at h60 | rw [zi_eq] at h60
              refine go_iload_n (i := 3) (pc := 77) dX5_allow_77 rfl rfl ?_
              refine go_iload (pc := 78) dX5_allow_78 rfl ?_
              refine go_iconst (nI 1) (pc := 80) dX5_allow_80 (by decide) ?_
              refine go_icmp_ne 88 (pc := 81) dX5_allow_81 (by decide) (fun h81 => ?_) (fun h81 => ?_)
              · first | rw [nI_eq (by omega) (by omega)] at h81 | rw [zi_eqN (by omega)] at h81 | rw [zi_Neq (by omega)] at h81 | rw [zi_eq] at h81
                refine go_iconst (nI 0) (pc := 88) dX5_allow_88 (by decide) ?_
                refine go_icmp_ne 96 (pc := 89) dX5_allow_89 (by decide) (fun h89 => ?_) (fun h89 => ?_)
                · first | rw [nI_eq (by omega) (by omega)] at h89 | rw [zi_eqN (by omega)] at h89 | rw [zi_Neq (by omega)] at h89 | rw [zi_eq] at h89
                  refine go_iconst (nI 0) (pc := 96) dX5_allow_96 (by decide) ?_
                  refine go_istore (pc := 97) dX5_allow_97 (by decide) ?_
                  refine go_iload (pc := 99) dX5_allow_99 rfl ?_
                  refine go_if_ne 106 (pc := 101) dX5_allow_101 (by decide) (fun h101 => ?_) (fun h101 => ?_)
                  · first | rw [zb_0d] at h101 | rw [zn_eq0 (by omega)] at h101 | rw [zi_eq0] at h101
                    try (exfalso; omega)
                    all_goals (
                      refine go_iincN (pc := 106) dX5_allow_106 rfl (by decide) ?_
                      refine go_goto 3 (pc := 109) dX5_allow_109 (by decide) ?_
                      refine go_drop [0, 1, 2, 3, 4] rfl ?_
                      refine ih (h - (i + 1)) (by omega) (i + 1) rfl (by omega) ?_
                      rw [fitA, hft, Bool.true_and]
                      unfold fit1
                      first
                        | (rw [if_pos (by omega)]; simp; omega)
                        | (rw [if_neg (by omega), if_pos (by omega)]; simp; omega)
                        | (rw [if_neg (by omega), if_neg (by omega)]; cases go <;> simp_all [zb, z00, z11]))
                  · first | rw [zb_0d] at h101 | rw [zn_eq0 (by omega)] at h101 | rw [zi_eq0] at h101
                    try (exfalso; omega)
                    all_goals (
                      refine go_iconst (nI 0) (pc := 104) dX5_allow_104 (by decide) ?_
                      refine go_zreturn (pc := 105) dX5_allow_105 rfl rfl ?_
                      refine ⟨?_, rfl⟩
                      rw [neg i (by omega) ?_]
                      · rfl
                      · unfold fit1
                        first
                          | (rw [if_pos (by omega)]; simp; omega)
                          | (rw [if_neg (by omega), if_pos (by omega)]; simp; omega)
                          | (rw [if_neg (by omega), if_neg (by omega)]; cases go <;> simp_all [zb, z00, z11]))
                · first | rw [nI_eq (by omega) (by omega)] at h89 | rw [zi_eqN (by omega)] at h89 | rw [zi_Neq (by omega)] at h89 | rw [zi_eq] at h89
                  refine go_iconst (nI 1) (pc := 92) dX5_allow_92 (by decide) ?_
                  refine go_goto 97 (pc := 93) dX5_allow_93 (by decide) ?_
                  refine go_istore (pc := 97) dX5_allow_97 (by decide) ?_
                  refine go_iload (pc := 99) dX5_allow_99 rfl ?_
                  refine go_if_ne 106 (pc := 101) dX5_allow_101 (by decide) (fun h101 => ?_) (fun h101 => ?_)
                  · first | rw [zb_0d] at h101 | rw [zn_eq0 (by omega)] at h101 | rw [zi_eq0] at h101
                    try (exfalso; omega)
                    all_goals (
                      refine go_iincN (pc := 106) dX5_allow_106 rfl (by decide) ?_
                      refine go_goto 3 (pc := 109) dX5_allow_109 (by decide) ?_
                      refine go_drop [0, 1, 2, 3, 4] rfl ?_
                      refine ih (h - (i + 1)) (by omega) (i + 1) rfl (by omega) ?_
                      rw [fitA, hft, Bool.true_and]
                      unfold fit1
                      first
                        | (rw [if_pos (by omega)]; simp; omega)
                        | (rw [if_neg (by omega), if_pos (by omega)]; simp; omega)
                        | (rw [if_neg (by omega), if_neg (by omega)]; cases go <;> simp_all [zb, z00, z11]))
                  · first | rw [zb_0d] at h101 | rw [zn_eq0 (by omega)] at h101 | rw [zi_eq0] at h101
                    try (exfalso; omega)
                    all_goals (
                      refine go_iconst (nI 0) (pc := 104) dX5_allow_104 (by decide) ?_
                      refine go_zreturn (pc := 105) dX5_allow_105 rfl rfl ?_
                      refine ⟨?_, rfl⟩
                      rw [neg i (by omega) ?_]
                      · rfl
                      · unfold fit1
                        first
                          | (rw [if_pos (by omega)]; simp; omega)
                          | (rw [if_neg (by omega), if_pos (by omega)]; simp; omega)
                          | (rw [if_neg (by omega), if_neg (by omega)]; cases go <;> simp_all [zb, z00, z11]))
              · first | rw [nI_eq (by omega) (by omega)] at h81 | rw [zi_eqN (by omega)] at h81 | rw [zi_Neq (by omega)] at h81 | rw [zi_eq] at h81
                refine go_iconst (nI 1) (pc := 84) dX5_allow_84 (by decide) ?_
                refine go_goto 89 (pc := 85) dX5_allow_85 (by decide) ?_
                refine go_icmp_ne 96 (pc := 89) dX5_allow_89 (by decide) (fun h89 => ?_) (fun h89 => ?_)
                · first | rw [nI_eq (by omega) (by omega)] at h89 | rw [zi_eqN (by omega)] at h89 | rw [zi_Neq (by omega)] at h89 | rw [zi_eq] at h89
                  refine go_iconst (nI 0) (pc := 96) dX5_allow_96 (by decide) ?_
                  refine go_istore (pc := 97) dX5_allow_97 (by decide) ?_
                  refine go_iload (pc := 99) dX5_allow_99 rfl ?_
                  refine go_if_ne 106 (pc := 101) dX5_allow_101 (by decide) (fun h101 => ?_) (fun h101 => ?_)
                  · first | rw [zb_0d] at h101 | rw [zn_eq0 (by omega)] at h101 | rw [zi_eq0] at h101
                    try (exfalso; omega)
                    all_goals (
                      refine go_iincN (pc := 106) dX5_allow_106 rfl (by decide) ?_
                      refine go_goto 3 (pc := 109) dX5_allow_109 (by decide) ?_
                      refine go_drop [0, 1, 2, 3, 4] rfl ?_
                      refine ih (h - (i + 1)) (by omega) (i + 1) rfl (by omega) ?_
                      rw [fitA, hft, Bool.true_and]
                      unfold fit1
                      first
                        | (rw [if_pos (by omega)]; simp; omega)
                        | (rw [if_neg (by omega), if_pos (by omega)]; simp; omega)
                        | (rw [if_neg (by omega), if_neg (by omega)]; cases go <;> simp_all [zb, z00, z11]))
                  · first | rw [zb_0d] at h101 | rw [zn_eq0 (by omega)] at h101 | rw [zi_eq0] at h101
                    try (exfalso; omega)
                    all_goals (
                      refine go_iconst (nI 0) (pc := 104) dX5_allow_104 (by decide) ?_
                      refine go_zreturn (pc := 105) dX5_allow_105 rfl rfl ?_
                      refine ⟨?_, rfl⟩
                      rw [neg i (by omega) ?_]
                      · rfl
                      · unfold fit1
                        first
                          | (rw [if_pos (by omega)]; simp; omega)
                          | (rw [if_neg (by omega), if_pos (by omega)]; simp; omega)
                          | (rw [if_neg (by omega), if_neg (by omega)]; cases go <;> simp_all [zb, z00, z11]))
                · first | rw [nI_eq (by omega) (by omega)] at h89 | rw [zi_eqN (by omega)] at h89 | rw [zi_Neq (by omega)] at h89 | rw [zi_eq] at h89
                  refine go_iconst (nI 1) (pc := 92) dX5_allow_92 (by decide) ?_
                  refine go_goto 97 (pc := 93) dX5_allow_93 (by decide) ?_
                  refine go_istore (pc := 97) dX5_allow_97 (by decide) ?_
                  refine go_iload (pc := 99) dX5_allow_99 rfl ?_
                  refine go_if_ne 106 (pc := 101) dX5_allow_101 (by decide) (fun h101 => ?_) (fun h101 => ?_)
                  · first | rw [zb_0d] at h101 | rw [zn_eq0 (by omega)] at h101 | rw [zi_eq0] at h101
                    try (exfalso; omega)
                    all_goals (
                      refine go_iincN (pc := 106) dX5_allow_106 rfl (by decide) ?_
                      refine go_goto 3 (pc := 109) dX5_allow_109 (by decide) ?_
                      refine go_drop [0, 1, 2, 3, 4] rfl ?_
                      refine ih (h - (i + 1)) (by omega) (i + 1) rfl (by omega) ?_
                      rw [fitA, hft, Bool.true_and]
                      unfold fit1
                      first
                        | (rw [if_pos (by omega)]; simp; omega)
                        | (rw [if_neg (by omega), if_pos (by omega)]; simp; omega)
                        | (rw [if_neg (by omega), if_neg (by omega)]; cases go <;> simp_all [zb, z00, z11]))
                  · first | rw [zb_0d] at h101 | rw [zn_eq0 (by omega)] at h101 | rw [zi_eq0] at h101
                    try (exfalso; omega)
                    all_goals (
                      refine go_iconst (nI 0) (pc := 104) dX5_allow_104 (by decide) ?_
                      refine go_zreturn (pc := 105) dX5_allow_105 rfl rfl ?_
                      refine ⟨?_, rfl⟩
                      rw [neg i (by omega) ?_]
                      · rfl
                      · unfold fit1
                        first
                          | (rw [if_pos (by omega)]; simp; omega)
                          | (rw [if_neg (by omega), if_pos (by omega)]; simp; omega)
                          | (rw [if_neg (by omega), if_neg (by omega)]; cases go <;> simp_all [zb, z00, z11]))
            · first | rw [nI_eq (by omega) (by omega)] at h60 | rw [zi_eqN (by omega)] at h60 | rw [zi_Neq (by omega)] at h60 | rw [zi_eq] at h60
              refine go_iload_n (i := 2) (pc := 63) dX5_allow_63 rfl rfl ?_
              refine go_iload (pc := 64) dX5_allow_64 rfl ?_
              refine go_icmp_lt 73 (pc := 66) dX5_allow_66 (by decide) (fun h66 => ?_) (fun h66 => ?_)
              · first | rw [nI_ltI (by omega) (by omega)] at h66 | rw [zi_ltN (by omega)] at h66 | rw [zi_Nlt (by omega)] at h66 | rw [zi_lt] at h66
                refine go_iconst (nI 0) (pc := 73) dX5_allow_73 (by decide) ?_
                refine go_goto 97 (pc := 74) dX5_allow_74 (by decide) ?_
                refine go_istore (pc := 97) dX5_allow_97 (by decide) ?_
                refine go_iload (pc := 99) dX5_allow_99 rfl ?_
                refine go_if_ne 106 (pc := 101) dX5_allow_101 (by decide) (fun h101 => ?_) (fun h101 => ?_)
                · first | rw [zb_0d] at h101 | rw [zn_eq0 (by omega)] at h101 | rw [zi_eq0] at h101
                  try (exfalso; omega)
                  all_goals (
                    refine go_iincN (pc := 106) dX5_allow_106 rfl (by decide) ?_
                    refine go_goto 3 (pc := 109) dX5_allow_109 (by decide) ?_
                    refine go_drop [0, 1, 2, 3, 4] rfl ?_
                    refine ih (h - (i + 1)) (by omega) (i + 1) rfl (by omega) ?_
                    rw [fitA, hft, Bool.true_and]
                    unfold fit1
                    first
                      | (rw [if_pos (by omega)]; simp; omega)
                      | (rw [if_neg (by omega), if_pos (by omega)]; simp; omega)
                      | (rw [if_neg (by omega), if_neg (by omega)]; cases go <;> simp_all [zb, z00, z11]))
                · first | rw [zb_0d] at h101 | rw [zn_eq0 (by omega)] at h101 | rw [zi_eq0] at h101
                  try (exfalso; omega)
                  all_goals (
                    refine go_iconst (nI 0) (pc := 104) dX5_allow_104 (by decide) ?_
                    refine go_zreturn (pc := 105) dX5_allow_105 rfl rfl ?_
                    refine ⟨?_, rfl⟩
                    rw [neg i (by omega) ?_]
                    · rfl
                    · unfold fit1
                      first
                        | (rw [if_pos (by omega)]; simp; omega)
                        | (rw [if_neg (by omega), if_pos (by omega)]; simp; omega)
                        | (rw [if_neg (by omega), if_neg (by omega)]; cases go <;> simp_all [zb, z00, z11]))
              · first | rw [nI_ltI (by omega) (by omega)] at h66 | rw [zi_ltN (by omega)] at h66 | rw [zi_Nlt (by omega)] at h66 | rw [zi_lt] at h66
                refine go_iconst (nI 1) (pc := 69) dX5_allow_69 (by decide) ?_
                refine go_goto 97 (pc := 70) dX5_allow_70 (by decide) ?_
                refine go_istore (pc := 97) dX5_allow_97 (by decide) ?_
                refine go_iload (pc := 99) dX5_allow_99 rfl ?_
                refine go_if_ne 106 (pc := 101) dX5_allow_101 (by decide) (fun h101 => ?_) (fun h101 => ?_)
                · first | rw [zb_0d] at h101 | rw [zn_eq0 (by omega)] at h101 | rw [zi_eq0] at h101
                  try (exfalso; omega)
                  all_goals (
                    refine go_iincN (pc := 106) dX5_allow_106 rfl (by decide) ?_
                    refine go_goto 3 (pc := 109) dX5_allow_109 (by decide) ?_
                    refine go_drop [0, 1, 2, 3, 4] rfl ?_
                    refine ih (h - (i + 1)) (by omega) (i + 1) rfl (by omega) ?_
                    rw [fitA, hft, Bool.true_and]
                    unfold fit1
                    first
                      | (rw [if_pos (by omega)]; simp; omega)
                      | (rw [if_neg (by omega), if_pos (by omega)]; simp; omega)
                      | (rw [if_neg (by omega), if_neg (by omega)]; cases go <;> simp_all [zb, z00, z11]))
                · first | rw [zb_0d] at h101 | rw [zn_eq0 (by omega)] at h101 | rw [zi_eq0] at h101
                  try (exfalso; omega)
                  all_goals (
                    refine go_iconst (nI 0) (pc := 104) dX5_allow_104 (by decide) ?_
                    refine go_zreturn (pc := 105) dX5_allow_105 rfl rfl ?_
                    refine ⟨?_, rfl⟩
                    rw [neg i (by omega) ?_]
                    · rfl
                    · unfold fit1
                      first
                        | (rw [if_pos (by omega)]; simp; omega)
                        | (rw [if_neg (by omega), if_pos (by omega)]; simp; omega)
                        | (rw [if_neg (by omega), if_neg (by omega)]; cases go <;> simp_all [zb, z00, z11]))
          · first | rw [zb_0d] at h35 | rw [zn_eq0 (by omega)] at h35 | rw [zi_eq0] at h35
            refine go_iload_n (i := 1) (pc := 38) dX5_allow_38 rfl rfl ?_
            refine go_iload (pc := 39) dX5_allow_39 rfl ?_
            refine go_icmp_ne 48 (pc := 41) dX5_allow_41 (by decide) (fun h41 => ?_) (fun h41 => ?_)
            · first | rw [nI_eq (by omega) (by omega)] at h41 | rw [zi_eqN (by omega)] at h41 | rw [zi_Neq (by omega)] at h41 | rw [zi_eq] at h41
              refine go_iconst (nI 0) (pc := 48) dX5_allow_48 (by decide) ?_
              refine go_goto 97 (pc := 49) dX5_allow_49 (by decide) ?_
              refine go_istore (pc := 97) dX5_allow_97 (by decide) ?_
              refine go_iload (pc := 99) dX5_allow_99 rfl ?_
              refine go_if_ne 106 (pc := 101) dX5_allow_101 (by decide) (fun h101 => ?_) (fun h101 => ?_)
              · first | rw [zb_0d] at h101 | rw [zn_eq0 (by omega)] at h101 | rw [zi_eq0] at h101
                try (exfalso; omega)
                all_goals (
                  refine go_iincN (pc := 106) dX5_allow_106 rfl (by decide) ?_
                  refine go_goto 3 (pc := 109) dX5_allow_109 (by decide) ?_
                  refine go_drop [0, 1, 2, 3, 4] rfl ?_
                  refine ih (h - (i + 1)) (by omega) (i + 1) rfl (by omega) ?_
                  rw [fitA, hft, Bool.true_and]
                  unfold fit1
                  first
                    | (rw [if_pos (by omega)]; simp; omega)
                    | (rw [if_neg (by omega), if_pos (by omega)]; simp; omega)
                    | (rw [if_neg (by omega), if_neg (by omega)]; cases go <;> simp_all [zb, z00, z11]))
              · first | rw [zb_0d] at h101 | rw [zn_eq0 (by omega)] at h101 | rw [zi_eq0] at h101
                try (exfalso; omega)
                all_goals (
                  refine go_iconst (nI 0) (pc := 104) dX5_allow_104 (by decide) ?_
                  refine go_zreturn (pc := 105) dX5_allow_105 rfl rfl ?_
                  refine ⟨?_, rfl⟩
                  rw [neg i (by omega) ?_]
                  · rfl
                  · unfold fit1
                    first
                      | (rw [if_pos (by omega)]; simp; omega)
                      | (rw [if_neg (by omega), if_pos (by omega)]; simp; omega)
                      | (rw [if_neg (by omega), if_neg (by omega)]; cases go <;> simp_all [zb, z00, z11]))
            · first | rw [nI_eq (by omega) (by omega)] at h41 | rw [zi_eqN (by omega)] at h41 | rw [zi_Neq (by omega)] at h41 | rw [zi_eq] at h41
              refine go_iconst (nI 1) (pc := 44) dX5_allow_44 (by decide) ?_
              refine go_goto 97 (pc := 45) dX5_allow_45 (by decide) ?_
              refine go_istore (pc := 97) dX5_allow_97 (by decide) ?_
              refine go_iload (pc := 99) dX5_allow_99 rfl ?_
              refine go_if_ne 106 (pc := 101) dX5_allow_101 (by decide) (fun h101 => ?_) (fun h101 => ?_)
              · first | rw [zb_0d] at h101 | rw [zn_eq0 (by omega)] at h101 | rw [zi_eq0] at h101
                try (exfalso; omega)
                all_goals (
                  refine go_iincN (pc := 106) dX5_allow_106 rfl (by decide) ?_
                  refine go_goto 3 (pc := 109) dX5_allow_109 (by decide) ?_
                  refine go_drop [0, 1, 2, 3, 4] rfl ?_
                  refine ih (h - (i + 1)) (by omega) (i + 1) rfl (by omega) ?_
                  rw [fitA, hft, Bool.true_and]
                  unfold fit1
                  first
                    | (rw [if_pos (by omega)]; simp; omega)
                    | (rw [if_neg (by omega), if_pos (by omega)]; simp; omega)
                    | (rw [if_neg (by omega), if_neg (by omega)]; cases go <;> simp_all [zb, z00, z11]))
              · first | rw [zb_0d] at h101 | rw [zn_eq0 (by omega)] at h101 | rw [zi_eq0] at h101
                try (exfalso; omega)
                all_goals (
                  refine go_iconst (nI 0) (pc := 104) dX5_allow_104 (by decide) ?_
                  refine go_zreturn (pc := 105) dX5_allow_105 rfl rfl ?_
                  refine ⟨?_, rfl⟩
                  rw [neg i (by omega) ?_]
                  · rfl
                  · unfold fit1
                    first
                      | (rw [if_pos (by omega)]; simp; omega)
                      | (rw [if_neg (by omega), if_pos (by omega)]; simp; omega)
                      | (rw [if_neg (by omega), if_neg (by omega)]; cases go <;> simp_all [zb, z00, z11]))
  refine go_iconst (nI 0) (pc := 0) dX5_allow_0 (by decide) ?_
  refine go_istore (pc := 1) dX5_allow_1 (by decide) ?_
  exact loop 0 (by omega) rfl

