/-! years drawn by a seed -/
def drN (d : Int32) : Int32 := d * 1103515245 + 12345
def rn (d : Int32) : Nat := d.toBitVec.toNat / 2 ^ 16
theorem rn_lt (d : Int32) : rn d < 65536 := by
  have : d.toBitVec.toNat < 2 ^ 32 := d.toBitVec.isLt
  unfold rn
  omega
theorem ushr16 (x : Int32) : (x.toUInt32 >>> ((nI 16).toUInt32 &&& Int32.toUInt32 31)).toInt32 = nI (rn x) := by
  apply Int32.toBitVec_inj.mp
  apply BitVec.eq_of_toNat_eq
  rw [pk_ushr x (nI 16) 16 (by decide), pk_tn (by have := rn_lt x; omega)]
  rfl
/-- one drawn act: the seed, the row, the loads -/
def yr1 (V : zV) (d : Int32) (ρ : Nat → Nat) (a : Nat) : Int32 × (Nat → Nat) × Nat := if a ≤ 1 then (d, (wk1 V ρ).2.2, (wk1 V ρ).2.1) else
  (drN d, if a = 2 then va_up ρ (12 + rn (drN d) % vN V) (min 9 (ρ (12 + rn (drN d) % vN V) + 1)) else if a = 3 then va_up ρ (12 + rn (drN d) % vN V) (ρ (12 + rn (drN d) % vN V) - 1) else if (ρ 24).testBit (rn (drN d) % vN V) then ρ else va_up ρ (rn (drN d) % vN V) (min 9 (ρ (rn (drN d) % vN V) + 2)), 0)
def yrN (l : Nat) (w : Int32 × (Nat → Nat) × Nat) : Int32 × (Nat → Nat) × Nat := (w.1, w.2.1, l + w.2.2)
def yrs (V : zV) (s : Int32) (ρ : Nat → Nat) : Nat → Int32 × (Nat → Nat) × Nat
  | 0 => (s, ρ, 0)
  | i + 1 => yrN (yrs V s ρ i).2.2 (yr1 V (drN (yrs V s ρ i).1) (yrs V s ρ i).2.1 (rn (drN (yrs V s ρ i).1) % 5))
theorem yrN_1 (l : Nat) (w : Int32 × (Nat → Nat) × Nat) : (yrN l w).1 = w.1 := rfl
theorem yrN_2 (l : Nat) (w : Int32 × (Nat → Nat) × Nat) : (yrN l w).2.1 = w.2.1 := rfl
theorem yrN_3 (l : Nat) (w : Int32 × (Nat → Nat) × Nat) : (yrN l w).2.2 = l + w.2.2 := rfl
theorem yrs_1 (V : zV) (s : Int32) (ρ : Nat → Nat) (i : Nat) : (yrs V s ρ (i + 1)).1 = (yr1 V (drN (yrs V s ρ i).1) (yrs V s ρ i).2.1 (rn (drN (yrs V s ρ i).1) % 5)).1 := by rw [yrs, yrN_1]
theorem yrs_2 (V : zV) (s : Int32) (ρ : Nat → Nat) (i : Nat) : (yrs V s ρ (i + 1)).2.1 = (yr1 V (drN (yrs V s ρ i).1) (yrs V s ρ i).2.1 (rn (drN (yrs V s ρ i).1) % 5)).2.1 := by rw [yrs, yrN_2]
theorem yrs_3 (V : zV) (s : Int32) (ρ : Nat → Nat) (i : Nat) : (yrs V s ρ (i + 1)).2.2 = (yrs V s ρ i).2.2 + (yr1 V (drN (yrs V s ρ i).1) (yrs V s ρ i).2.1 (rn (drN (yrs V s ρ i).1) % 5)).2.2 := by rw [yrs, yrN_3]
theorem RowOK.mn {n m v : Nat} {ρ : Nat → Nat} (h : RowOK n ρ) (hm : m < 12) (hv : v ≤ 9) : RowOK n (va_up ρ (12 + m) v) := by
  obtain ⟨h1, h2, h3, h4, h5, h6, h7, h8⟩ := h
  refine ⟨h1, h2, fun j hj => ?_, ?_, ?_, ?_, ?_, ?_⟩
  · rw [va_at']; split; exact hv; exact h3 j hj
  all_goals (rw [va_at', if_neg (by omega)]; assumption)
theorem yr1_ok {V : zV} {d : Int32} {ρ : Nat → Nat} {a : Nat} (hV : VOK V) (hok : RowOK (vN V) ρ) (h1 : ρ 27 + 1 < 2 ^ 28) (h2 : ρ 28 + 72 < 2 ^ 28) : RowOK (vN V) (yr1 V d ρ a).2.1 ∧ (yr1 V d ρ a).2.1 27 ≤ ρ 27 + 1 ∧ (yr1 V d ρ a).2.1 28 = ρ 28 + (yr1 V d ρ a).2.2 ∧ (yr1 V d ρ a).2.2 ≤ 72 ∧ (yr1 V d ρ a).2.1 25 = ρ 25 ∧ (yr1 V d ρ a).2.1 26 = ρ 26 := by
  obtain ⟨b1, b2, b3, b4, b5, b6⟩ := wk1_ok hV hok h1 h2
  have hm : rn (drN d) % vN V < vN V := Nat.mod_lt _ hV.1
  have hn := hV.2.1
  have hq := hok.2.2.1 (12 + rn (drN d) % vN V) (by omega)
  unfold yr1
  split
  · exact ⟨b1, Nat.le_of_eq b2, b3, b4, b6 25 (by decide) (by decide), b6 26 (by decide) (by decide)⟩
  · dsimp only
    split
    · exact ⟨hok.mn (by omega) (by omega), by rw [va_at', if_neg (by omega)]; omega, by rw [va_at', if_neg (by omega)]; omega, by omega, by rw [va_at', if_neg (by omega)], by rw [va_at', if_neg (by omega)]⟩
    · split
      · exact ⟨hok.mn (by omega) (by omega), by rw [va_at', if_neg (by omega)]; omega, by rw [va_at', if_neg (by omega)]; omega, by omega, by rw [va_at', if_neg (by omega)], by rw [va_at', if_neg (by omega)]⟩
      · split
        · exact ⟨hok, by omega, by omega, by omega, rfl, rfl⟩
        · exact ⟨hok.lo (by omega) (by omega), by rw [va_at', if_neg (by omega)]; omega, by rw [va_at', if_neg (by omega)]; omega, by omega, by rw [va_at', if_neg (by omega)], by rw [va_at', if_neg (by omega)]⟩
theorem yrs_ok {V : zV} {s : Int32} {ρ : Nat → Nat} (hV : VOK V) (hok : RowOK (vN V) ρ) (i : Nat) (h1 : ρ 27 + i < 2 ^ 28) (h2 : ρ 28 + 72 * i < 2 ^ 28) : RowOK (vN V) (yrs V s ρ i).2.1 ∧ (yrs V s ρ i).2.1 27 ≤ ρ 27 + i ∧ (yrs V s ρ i).2.1 28 = ρ 28 + (yrs V s ρ i).2.2 ∧ (yrs V s ρ i).2.2 ≤ 72 * i := by
  induction i with
  | zero => exact ⟨hok, Nat.le_refl _, rfl, Nat.le_refl _⟩
  | succ i ih =>
    obtain ⟨a1, a2, a3, a4⟩ := ih (by omega) (by omega)
    obtain ⟨b1, b2, b3, b4, -, -⟩ := yr1_ok (d := drN (yrs V s ρ i).1) (a := rn (drN (yrs V s ρ i).1) % 5) hV a1 (by omega) (by omega)
    rw [yrs_2, yrs_3]
    exact ⟨b1, by omega, by omega, by omega⟩

theorem c_X11_draw {E : zE} {σ : zT} {n : Nat} {d : Int32} (hd : σ.1 0 16 = d) (h1 : 1 ≤ n) (hn : n ≤ 12) : CalM E 0 yX11_draw cX11_draw 2 (some .int) [.ref (zA E 0 0), .int (nI n)] σ (fun r σ' => r = some (.int (nI (rn (drN d) % n))) ∧ σ' = uS σ 0 16 (drN d)) := by
  refine cal_of_go (own := RX11) rfl (by decide +kernel) (Nat.le_of_ble_eq_true rfl) ?_
  refine go_aload_n (i := 0) (pc := 0) dX11_draw_0 rfl rfl ?_
  refine go_aload_n (i := 0) (pc := 1) dX11_draw_1 rfl rfl ?_
  refine go_geti fl_X11_402 (pc := 2) dX11_draw_2 (by first | rfl | (apply zL_fi <;> first | assumption | decide) | (apply zR_fi <;> first | assumption | decide)) ?_
  rw [hd]
  refine go_ldcw (1103515245) kc_X11_412 (pc := 5) dX11_draw_5 ?_
  refine go_imul (pc := 8) dX11_draw_8 ?_
  refine go_sipush (nI 12345) (pc := 9) dX11_draw_9 (by decide) ?_
  refine go_iadd (pc := 12) dX11_draw_12 ?_
  rw [show d * 1103515245 + nI 12345 = drN d from rfl]
  refine go_puti fp_X11_402 (pc := 13) dX11_draw_13 (by first | rfl | (apply zL_fi <;> first | assumption | decide) | (apply zR_fi <;> first | assumption | decide)) rfl rfl ?_
  refine go_iload_n (i := 1) (pc := 16) dX11_draw_16 rfl rfl ?_
  refine go_if_le 32 (pc := 17) dX11_draw_17 (by decide) (fun h17 => ?_) (fun h17 => ?_)
  · first | rw [zb_0d] at h17 | rw [zn_le0 (by omega)] at h17 | rw [zi_le0] at h17
    exfalso
    omega
  · first | rw [zb_0d] at h17 | rw [zn_le0 (by omega)] at h17 | rw [zi_le0] at h17
    refine go_aload_n (i := 0) (pc := 20) dX11_draw_20 rfl rfl ?_
    refine go_geti fl_X11_402 (pc := 21) dX11_draw_21 (by first | rfl | (apply zL_fi <;> first | assumption | decide) | (apply zR_fi <;> first | assumption | decide)) ?_
    rw [uS_s]
    have hr := rn_lt (drN d)
    refine go_bipush (nI 16) (pc := 24) dX11_draw_24 (by decide) ?_
    refine go_iushr (pc := 26) dX11_draw_26 ?_
    rw [ushr16]
    refine go_iload_n (i := 1) (pc := 27) dX11_draw_27 rfl rfl ?_
    refine go_irem (pc := 28) dX11_draw_28 (by rw [zn_eq0 (by omega)]; omega) ?_
    rw [pk_rem (by omega) (by omega) (by omega)]
    refine go_goto 33 (pc := 29) dX11_draw_29 (by decide) ?_
    refine go_ireturn (pc := 33) dX11_draw_33 rfl ?_
    exact ⟨rfl, rfl⟩

theorem clp_upk {v k : Nat} (h : v ≤ 9) (hk : k ≤ 9) : clp (nI (v + k)) 9 = min 9 (v + k) := by rw [clp_N (by omega)]; split <;> omega
theorem clp_dn1 {v : Nat} (h : v ≤ 9) : clp (nI v - nI 1) 9 = v - 1 := by
  have e : (nI v - nI 1).toInt = (v : Int) - 1 := pk_sub_toInt (by omega) (by decide)
  unfold clp
  rw [e]
  split
  · omega
  · rw [if_neg (by omega)]; omega

theorem c_X11_drawnAct {E : zE} {σ : zT} {tx : Nat × (Nat → Nat)} {bd : Nat × (Nat → Nat) × (Nat → Nat)} {sk : Nat × (Nat → Nat)} {tw : Nat × (Nat → Nat) × (Nat → Nat)} {xs : List Nat} {ld : Nat × (Nat → Nat)} {pa sh : Nat × (Nat → Nat → Nat)} {ru : Nat × (Nat → Nat) × (Nat → Nat)} {to : Nat × (Nat → Int64)} {a : Nat} {d : Int32} {ρ : Nat → Nat} (hC : ClsIs σ tx bd sk tw xs ld pa sh ru to) (hT : LandIs σ 7 ld.1 ρ) (hd : σ.1 0 16 = d) (ha : a ≤ 4) (h27 : ρ 27 + 1 < 2 ^ 28) (h28 : ρ 28 + 72 < 2 ^ 28) : CalM E 6 yX11_drawnAct cX11_drawnAct 3 (some .int) [.ref (zA E 0 0), .int (nI a)] σ (fun r σ' => r = some (.int (nI (yr1 (vOf bd sk xs ld.1) d ρ a).2.2)) ∧ ClsIs σ' tx bd sk tw xs ld pa sh ru to ∧ σ'.1 0 16 = (yr1 (vOf bd sk xs ld.1) d ρ a).1 ∧ LandIs σ' 7 ld.1 (yr1 (vOf bd sk xs ld.1) d ρ a).2.1 ∧ Fr33 σ σ') := by
  refine cal_of_go (own := RX11) rfl (by decide +kernel) (Nat.le_of_ble_eq_true rfl) ?_
  have hL := hC.2.2.2.2.2.1
  have hn := hL.b
  have hok := hL.1
  have hB0 := hC.2.2.1
  have hnc := hB0.1
  obtain ⟨kr, hkr, hz, hR14, hW⟩ := hC.w (kl := 7) rfl hT
  refine go_iload_n (i := 1) (pc := 0) dX11_drawnAct_0 rfl rfl ?_
  refine go_iconst (nI 1) (pc := 1) dX11_drawnAct_1 (by decide) ?_
  refine go_icmp_gt 22 (pc := 2) dX11_drawnAct_2 (by decide) (fun h2 => ?_) (fun h2 => ?_)
  · first | rw [nI_ltI (by omega) (by omega)] at h2 | rw [zi_ltN (by omega)] at h2 | rw [zi_Nlt (by omega)] at h2 | rw [zi_lt] at h2
    refine go_aload_n (i := 0) (pc := 22) dX11_drawnAct_22 rfl rfl ?_
    refine go_aload_n (i := 0) (pc := 23) dX11_drawnAct_23 rfl rfl ?_
    refine go_getr2 fl_X11_53 (pc := 24) dX11_drawnAct_24 (by first | rfl | (apply zL_ci <;> assumption) | (apply zR_ci <;> assumption)) (by first | rfl | (apply zL_in <;> first | assumption | decide) | (apply zR_in <;> first | assumption | decide)) (by first | rfl | (apply zL_fr0 <;> assumption) | (apply zL_fr1 <;> assumption) | (apply zR_fr0 <;> assumption) | (apply zR_fr1 <;> assumption) | (apply zR_fr2 <;> assumption) | (apply zR_fr3 <;> assumption)) ?_
    refine go_callV ml_X11_127 mt_X2_miles (pc := 27) dX11_drawnAct_27 (c_X2_miles rfl hT) (by first | rfl | (apply zL_cq <;> assumption) | (apply zR_cq <;> assumption)) rfl (by first | rfl | (apply zL_in <;> first | assumption | decide) | (apply zR_in <;> first | assumption | decide)) (by decide) (by decide) rfl rfl (Nat.le_of_ble_eq_true rfl) (fun r σ' hp => ?_)
    obtain ⟨rfl, hσ⟩ := hp
    rw [hσ]
    clear hσ σ'
    dsimp only [zRet]
    refine go_callV ml_X11_406 mt_X11_draw (pc := 30) dX11_drawnAct_30 (c_X11_draw hd hn.1 hn.2) (by first | rfl | (apply zL_cq <;> assumption) | (apply zR_cq <;> assumption)) rfl (by first | rfl | (apply zL_in <;> first | assumption | decide) | (apply zR_in <;> first | assumption | decide)) (by decide) (by decide) rfl rfl (Nat.le_of_ble_eq_true rfl) (fun r σ' hp => ?_)
    obtain ⟨rfl, rfl⟩ := hp
    dsimp only [zRet]
    have hfu : FrG [0] σ (uS σ 0 16 (drN d)) := FrG.rf.uS (by simp)
    have hC2 := hC.fr hfu (by simp)
    have hT2 := hT.fr hfu (by simp)
    have hml : rn (drN d) % ld.1 < ld.1 := Nat.mod_lt _ hn.1
    have h9m := hT.1.2.2.1 (12 + rn (drN d) % ld.1) (by omega)
    have h9h := hT.1.2.2.1 (rn (drN d) % ld.1) (by omega)
    refine go_istore_n (i := 2) (pc := 33) dX11_drawnAct_33 rfl (by decide) ?_
    refine go_iload_n (i := 1) (pc := 34) dX11_drawnAct_34 rfl rfl ?_
    refine go_iconst (nI 2) (pc := 35) dX11_drawnAct_35 (by decide) ?_
    refine go_icmp_ne 60 (pc := 36) dX11_drawnAct_36 (by decide) (fun h36 => ?_) (fun h36 => ?_)
    · first | rw [nI_eq (by omega) (by omega)] at h36 | rw [zi_eqN (by omega)] at h36 | rw [zi_Neq (by omega)] at h36 | rw [zi_eq] at h36
      refine go_iload_n (i := 1) (pc := 60) dX11_drawnAct_60 rfl rfl ?_
      refine go_iconst (nI 3) (pc := 61) dX11_drawnAct_61 (by decide) ?_
      refine go_icmp_ne 86 (pc := 62) dX11_drawnAct_62 (by decide) (fun h62 => ?_) (fun h62 => ?_)
      · first | rw [nI_eq (by omega) (by omega)] at h62 | rw [zi_eqN (by omega)] at h62 | rw [zi_Neq (by omega)] at h62 | rw [zi_eq] at h62
        refine go_aload_n (i := 0) (pc := 86) dX11_drawnAct_86 rfl rfl ?_
        refine go_getr2 fl_X11_53 (pc := 87) dX11_drawnAct_87 (by first | rfl | (apply zL_ci <;> assumption) | (apply zR_ci <;> assumption)) (by first | rfl | (apply zL_in <;> first | assumption | decide) | (apply zR_in <;> first | assumption | decide)) (by first | rfl | (apply zL_fr0 <;> assumption) | (apply zL_fr1 <;> assumption) | (apply zR_fr0 <;> assumption) | (apply zR_fr1 <;> assumption) | (apply zR_fr2 <;> assumption) | (apply zR_fr3 <;> assumption)) ?_
        refine go_iload_n (i := 2) (pc := 90) dX11_drawnAct_90 rfl rfl ?_
        refine go_callV ml_X11_153 mt_X2_hasGate (pc := 91) dX11_drawnAct_91 (c_X2_hasGate rfl hT2 hml) (by first | rfl | (apply zL_cq <;> assumption) | (apply zR_cq <;> assumption)) rfl (by first | rfl | (apply zL_in <;> first | assumption | decide) | (apply zR_in <;> first | assumption | decide)) (by decide) (by decide) rfl rfl (Nat.le_of_ble_eq_true rfl) (fun r σ' hp => ?_)
        obtain ⟨rfl, hσ⟩ := hp
        rw [hσ]
        clear hσ σ'
        dsimp only [zRet]
        refine go_if_ne 115 (pc := 94) dX11_drawnAct_94 (by decide) (fun h94 => ?_) (fun h94 => ?_)
        · rw [zb_0] at h94
          have hg : (ρ 24).testBit (rn (drN d) % ld.1) = true := by simpa using h94
          have hC3 := hC2
          have hF3 := Fr33.of hfu (by simp)
          have hd3 : (uS σ 0 16 (drN d)).1 0 16 = drN d := uS_s _ _ _ _
          refine go_iconst (nI 0) (pc := 115) dX11_drawnAct_115 (by decide) ?_
          refine go_ireturn (pc := 116) dX11_drawnAct_116 rfl ?_
          refine ⟨by unfold yr1; rw [if_neg (by omega)], hC3, by unfold yr1; rw [if_neg (by omega)]; exact hd3, ?_, hF3⟩
          unfold yr1
          rw [if_neg (by omega)]
          dsimp only
          first
            | (rw [if_pos (by omega)]; exact hL2)
            | (rw [if_neg (by omega), if_pos (by omega)]; exact hL2)
            | (rw [if_neg (by omega), if_neg (by omega), if_pos (show (ρ 24).testBit (rn (drN d) % vN (vOf bd sk xs ld.1)) = true from hg)]; exact hT2)
            | (rw [if_neg (by omega), if_neg (by omega), if_neg (show ¬ (ρ 24).testBit (rn (drN d) % vN (vOf bd sk xs ld.1)) = true from hg)]; exact hL2)
        · rw [zb_0] at h94
          have hg : ¬ (ρ 24).testBit (rn (drN d) % ld.1) = true := by rw [h94]; decide
          refine go_aload_n (i := 0) (pc := 97) dX11_drawnAct_97 rfl rfl ?_
          refine go_getr2 fl_X11_53 (pc := 98) dX11_drawnAct_98 (by first | rfl | (apply zL_ci <;> assumption) | (apply zR_ci <;> assumption)) (by first | rfl | (apply zL_in <;> first | assumption | decide) | (apply zR_in <;> first | assumption | decide)) (by first | rfl | (apply zL_fr0 <;> assumption) | (apply zL_fr1 <;> assumption) | (apply zR_fr0 <;> assumption) | (apply zR_fr1 <;> assumption) | (apply zR_fr2 <;> assumption) | (apply zR_fr3 <;> assumption)) ?_
          refine go_iload_n (i := 2) (pc := 101) dX11_drawnAct_101 rfl rfl ?_
          refine go_aload_n (i := 0) (pc := 102) dX11_drawnAct_102 rfl rfl ?_
          refine go_getr2 fl_X11_53 (pc := 103) dX11_drawnAct_103 (by first | rfl | (apply zL_ci <;> assumption) | (apply zR_ci <;> assumption)) (by first | rfl | (apply zL_in <;> first | assumption | decide) | (apply zR_in <;> first | assumption | decide)) (by first | rfl | (apply zL_fr0 <;> assumption) | (apply zL_fr1 <;> assumption) | (apply zR_fr0 <;> assumption) | (apply zR_fr1 <;> assumption) | (apply zR_fr2 <;> assumption) | (apply zR_fr3 <;> assumption)) ?_
          refine go_iload_n (i := 2) (pc := 106) dX11_drawnAct_106 rfl rfl ?_
          refine go_callV ml_X11_150 mt_X2_hedgeAt (pc := 107) dX11_drawnAct_107 (c_X2_hedgeAt rfl hT2 hml) (by first | rfl | (apply zL_cq <;> assumption) | (apply zR_cq <;> assumption)) rfl (by first | rfl | (apply zL_in <;> first | assumption | decide) | (apply zR_in <;> first | assumption | decide)) (by decide) (by decide) rfl rfl (Nat.le_of_ble_eq_true rfl) (fun r σ' hp => ?_)
          obtain ⟨rfl, hσ⟩ := hp
          rw [hσ]
          clear hσ σ'
          dsimp only [zRet]
          refine go_iconst (nI 2) (pc := 110) dX11_drawnAct_110 (by decide) ?_
          first | with_reducible refine go_iaddN (pc := 111) dX11_drawnAct_111 ?_ | refine go_iadd (pc := 111) dX11_drawnAct_111 ?_
          refine go_callV ml_X11_191 mt_X2_setHedge (pc := 112) dX11_drawnAct_112 (c_X2_setHedge rfl hT2 hml) (by first | rfl | (apply zL_cq <;> assumption) | (apply zR_cq <;> assumption)) rfl (by first | rfl | (apply zL_in <;> first | assumption | decide) | (apply zR_in <;> first | assumption | decide)) (by decide) (by decide) rfl rfl (Nat.le_of_ble_eq_true rfl) (fun r σ' hp => ?_)
          obtain ⟨rfl, hL2, hf⟩ := hp
          dsimp only [zRet]
          have hC3 := hC2.fr hf (by simp)
          have hd3 : σ'.1 0 16 = drN d := by rw [(hf.1 0 (by simp)).1]; exact uS_s _ _ _ _
          have hF3 := (Fr33.of hfu (by simp)).tr (Fr33.of hf (by simp))
          rw [clp_upk h9h (by decide)] at hL2
          refine go_iconst (nI 0) (pc := 115) dX11_drawnAct_115 (by decide) ?_
          refine go_ireturn (pc := 116) dX11_drawnAct_116 rfl ?_
          refine ⟨by unfold yr1; rw [if_neg (by omega)], hC3, by unfold yr1; rw [if_neg (by omega)]; exact hd3, ?_, hF3⟩
          unfold yr1
          rw [if_neg (by omega)]
          dsimp only
          first
            | (rw [if_pos (by omega)]; exact hL2)
            | (rw [if_neg (by omega), if_pos (by omega)]; exact hL2)
            | (rw [if_neg (by omega), if_neg (by omega), if_pos (show (ρ 24).testBit (rn (drN d) % vN (vOf bd sk xs ld.1)) = true from hg)]; exact hT2)
            | (rw [if_neg (by omega), if_neg (by omega), if_neg (show ¬ (ρ 24).testBit (rn (drN d) % vN (vOf bd sk xs ld.1)) = true from hg)]; exact hL2)
      · first | rw [nI_eq (by omega) (by omega)] at h62 | rw [zi_eqN (by omega)] at h62 | rw [zi_Neq (by omega)] at h62 | rw [zi_eq] at h62
        refine go_aload_n (i := 0) (pc := 65) dX11_drawnAct_65 rfl rfl ?_
        refine go_getr2 fl_X11_53 (pc := 66) dX11_drawnAct_66 (by first | rfl | (apply zL_ci <;> assumption) | (apply zR_ci <;> assumption)) (by first | rfl | (apply zL_in <;> first | assumption | decide) | (apply zR_in <;> first | assumption | decide)) (by first | rfl | (apply zL_fr0 <;> assumption) | (apply zL_fr1 <;> assumption) | (apply zR_fr0 <;> assumption) | (apply zR_fr1 <;> assumption) | (apply zR_fr2 <;> assumption) | (apply zR_fr3 <;> assumption)) ?_
        refine go_iload_n (i := 2) (pc := 69) dX11_drawnAct_69 rfl rfl ?_
        refine go_aload_n (i := 0) (pc := 70) dX11_drawnAct_70 rfl rfl ?_
        refine go_getr2 fl_X11_53 (pc := 71) dX11_drawnAct_71 (by first | rfl | (apply zL_ci <;> assumption) | (apply zR_ci <;> assumption)) (by first | rfl | (apply zL_in <;> first | assumption | decide) | (apply zR_in <;> first | assumption | decide)) (by first | rfl | (apply zL_fr0 <;> assumption) | (apply zL_fr1 <;> assumption) | (apply zR_fr0 <;> assumption) | (apply zR_fr1 <;> assumption) | (apply zR_fr2 <;> assumption) | (apply zR_fr3 <;> assumption)) ?_
        refine go_iload_n (i := 2) (pc := 74) dX11_drawnAct_74 rfl rfl ?_
        refine go_callV ml_X11_156 mt_X2_menAt (pc := 75) dX11_drawnAct_75 (c_X2_menAt rfl hT2 hml) (by first | rfl | (apply zL_cq <;> assumption) | (apply zR_cq <;> assumption)) rfl (by first | rfl | (apply zL_in <;> first | assumption | decide) | (apply zR_in <;> first | assumption | decide)) (by decide) (by decide) rfl rfl (Nat.le_of_ble_eq_true rfl) (fun r σ' hp => ?_)
        obtain ⟨rfl, hσ⟩ := hp
        rw [hσ]
        clear hσ σ'
        dsimp only [zRet]
        refine go_iconst (nI 1) (pc := 78) dX11_drawnAct_78 (by decide) ?_
        refine go_isub (pc := 79) dX11_drawnAct_79 ?_
        refine go_callV ml_X11_260 mt_X2_setMen (pc := 80) dX11_drawnAct_80 (c_X2_setMen rfl hT2 hml) (by first | rfl | (apply zL_cq <;> assumption) | (apply zR_cq <;> assumption)) rfl (by first | rfl | (apply zL_in <;> first | assumption | decide) | (apply zR_in <;> first | assumption | decide)) (by decide) (by decide) rfl rfl (Nat.le_of_ble_eq_true rfl) (fun r σ' hp => ?_)
        obtain ⟨rfl, hL2, hf⟩ := hp
        dsimp only [zRet]
        have hC3 := hC2.fr hf (by simp)
        have hd3 : σ'.1 0 16 = drN d := by rw [(hf.1 0 (by simp)).1]; exact uS_s _ _ _ _
        have hF3 := (Fr33.of hfu (by simp)).tr (Fr33.of hf (by simp))
        rw [clp_dn1 h9m] at hL2
        refine go_goto 115 (pc := 83) dX11_drawnAct_83 (by decide) ?_
        refine go_iconst (nI 0) (pc := 115) dX11_drawnAct_115 (by decide) ?_
        refine go_ireturn (pc := 116) dX11_drawnAct_116 rfl ?_
        refine ⟨by unfold yr1; rw [if_neg (by omega)], hC3, by unfold yr1; rw [if_neg (by omega)]; exact hd3, ?_, hF3⟩
        unfold yr1
        rw [if_neg (by omega)]
        dsimp only
        first
          | (rw [if_pos (by omega)]; exact hL2)
          | (rw [if_neg (by omega), if_pos (by omega)]; exact hL2)
          | (rw [if_neg (by omega), if_neg (by omega), if_pos (show (ρ 24).testBit (rn (drN d) % vN (vOf bd sk xs ld.1)) = true from hg)]; exact hT2)
          | (rw [if_neg (by omega), if_neg (by omega), if_neg (show ¬ (ρ 24).testBit (rn (drN d) % vN (vOf bd sk xs ld.1)) = true from hg)]; exact hL2)
    · first | rw [nI_eq (by omega) (by omega)] at h36 | rw [zi_eqN (by omega)] at h36 | rw [zi_Neq (by omega)] at h36 | rw [zi_eq] at h36
      refine go_aload_n (i := 0) (pc := 39) dX11_drawnAct_39 rfl rfl ?_
      refine go_getr2 fl_X11_53 (pc := 40) dX11_drawnAct_40 (by first | rfl | (apply zL_ci <;> assumption) | (apply zR_ci <;> assumption)) (by first | rfl | (apply zL_in <;> first | assumption | decide) | (apply zR_in <;> first | assumption | decide)) (by first | rfl | (apply zL_fr0 <;> assumption) | (apply zL_fr1 <;> assumption) | (apply zR_fr0 <;> assumption) | (apply zR_fr1 <;> assumption) | (apply zR_fr2 <;> assumption) | (apply zR_fr3 <;> assumption)) ?_
      refine go_iload_n (i := 2) (pc := 43) dX11_drawnAct_43 rfl rfl ?_
      refine go_aload_n (i := 0) (pc := 44) dX11_drawnAct_44 rfl rfl ?_
      refine go_getr2 fl_X11_53 (pc := 45) dX11_drawnAct_45 (by first | rfl | (apply zL_ci <;> assumption) | (apply zR_ci <;> assumption)) (by first | rfl | (apply zL_in <;> first | assumption | decide) | (apply zR_in <;> first | assumption | decide)) (by first | rfl | (apply zL_fr0 <;> assumption) | (apply zL_fr1 <;> assumption) | (apply zR_fr0 <;> assumption) | (apply zR_fr1 <;> assumption) | (apply zR_fr2 <;> assumption) | (apply zR_fr3 <;> assumption)) ?_
      refine go_iload_n (i := 2) (pc := 48) dX11_drawnAct_48 rfl rfl ?_
      refine go_callV ml_X11_156 mt_X2_menAt (pc := 49) dX11_drawnAct_49 (c_X2_menAt rfl hT2 hml) (by first | rfl | (apply zL_cq <;> assumption) | (apply zR_cq <;> assumption)) rfl (by first | rfl | (apply zL_in <;> first | assumption | decide) | (apply zR_in <;> first | assumption | decide)) (by decide) (by decide) rfl rfl (Nat.le_of_ble_eq_true rfl) (fun r σ' hp => ?_)
      obtain ⟨rfl, hσ⟩ := hp
      rw [hσ]
      clear hσ σ'
      dsimp only [zRet]
      refine go_iconst (nI 1) (pc := 52) dX11_drawnAct_52 (by decide) ?_
      first | with_reducible refine go_iaddN (pc := 53) dX11_drawnAct_53 ?_ | refine go_iadd (pc := 53) dX11_drawnAct_53 ?_
      refine go_callV ml_X11_260 mt_X2_setMen (pc := 54) dX11_drawnAct_54 (c_X2_setMen rfl hT2 hml) (by first | rfl | (apply zL_cq <;> assumption) | (apply zR_cq <;> assumption)) rfl (by first | rfl | (apply zL_in <;> first | assumption | decide) | (apply zR_in <;> first | assumption | decide)) (by decide) (by decide) rfl rfl (Nat.le_of_ble_eq_true rfl) (fun r σ' hp => ?_)
      obtain ⟨rfl, hL2, hf⟩ := hp
      dsimp only [zRet]
      have hC3 := hC2.fr hf (by simp)
      have hd3 : σ'.1 0 16 = drN d := by rw [(hf.1 0 (by simp)).1]; exact uS_s _ _ _ _
      have hF3 := (Fr33.of hfu (by simp)).tr (Fr33.of hf (by simp))
      rw [clp_upk h9m (by decide)] at hL2
      refine go_goto 115 (pc := 57) dX11_drawnAct_57 (by decide) ?_
      refine go_iconst (nI 0) (pc := 115) dX11_drawnAct_115 (by decide) ?_
      refine go_ireturn (pc := 116) dX11_drawnAct_116 rfl ?_
      refine ⟨by unfold yr1; rw [if_neg (by omega)], hC3, by unfold yr1; rw [if_neg (by omega)]; exact hd3, ?_, hF3⟩
      unfold yr1
      rw [if_neg (by omega)]
      dsimp only
      first
        | (rw [if_pos (by omega)]; exact hL2)
        | (rw [if_neg (by omega), if_pos (by omega)]; exact hL2)
        | (rw [if_neg (by omega), if_neg (by omega), if_pos (show (ρ 24).testBit (rn (drN d) % vN (vOf bd sk xs ld.1)) = true from hg)]; exact hT2)
        | (rw [if_neg (by omega), if_neg (by omega), if_neg (show ¬ (ρ 24).testBit (rn (drN d) % vN (vOf bd sk xs ld.1)) = true from hg)]; exact hL2)
  · first | rw [nI_ltI (by omega) (by omega)] at h2 | rw [zi_ltN (by omega)] at h2 | rw [zi_Nlt (by omega)] at h2 | rw [zi_lt] at h2
    refine go_aload_n (i := 0) (pc := 5) dX11_drawnAct_5 rfl rfl ?_
    refine go_getr2 fl_X11_42 (pc := 6) dX11_drawnAct_6 (by first | rfl | (apply zL_ci <;> assumption) | (apply zR_ci <;> assumption)) (by first | rfl | (apply zL_in <;> first | assumption | decide) | (apply zR_in <;> first | assumption | decide)) (by first | rfl | (apply zL_fr0 <;> assumption) | (apply zL_fr1 <;> assumption) | (apply zR_fr0 <;> assumption) | (apply zR_fr1 <;> assumption) | (apply zR_fr2 <;> assumption) | (apply zR_fr3 <;> assumption)) ?_
    refine go_aload_n (i := 0) (pc := 9) dX11_drawnAct_9 rfl rfl ?_
    refine go_getR fl_X11_97 (pc := 10) dX11_drawnAct_10 rfl ?_
    rw [hR14]
    refine go_aload_n (i := 0) (pc := 13) dX11_drawnAct_13 rfl rfl ?_
    refine go_getr2 fl_X11_53 (pc := 14) dX11_drawnAct_14 (by first | rfl | (apply zL_ci <;> assumption) | (apply zR_ci <;> assumption)) (by first | rfl | (apply zL_in <;> first | assumption | decide) | (apply zR_in <;> first | assumption | decide)) (by first | rfl | (apply zL_fr0 <;> assumption) | (apply zL_fr1 <;> assumption) | (apply zR_fr0 <;> assumption) | (apply zR_fr1 <;> assumption) | (apply zR_fr2 <;> assumption) | (apply zR_fr3 <;> assumption)) ?_
    refine go_iconst (nI 1) (pc := 17) dX11_drawnAct_17 (by decide) ?_
    refine go_callV ml_X11_217 mt_X1_pass (pc := 18) dX11_drawnAct_18 (c_X1_pass hW (by omega) (by omega)) (by first | rfl | (apply zL_cq <;> assumption) | (apply zR_cq <;> assumption)) rfl (by first | rfl | (apply zL_in <;> first | assumption | decide) | (apply zR_in <;> first | assumption | decide)) (by decide) (by decide) rfl rfl (Nat.le_of_ble_eq_true rfl) (fun r σ' hp => ?_)
    obtain ⟨rfl, hE5, hE6, hE4, hW2, hf⟩ := hp
    dsimp only [zRet]
    have hC3 := hC.try hz hR14 (Or.inl rfl) hf rfl hW2
    have e1 : (wks (vOf bd sk xs ld.1) ρ 1).2.2.1 = (wk1 (vOf bd sk xs ld.1) ρ).2.1 := Nat.zero_add _
    rw [e1]
    refine go_ireturn (pc := 21) dX11_drawnAct_21 rfl ?_
    exact ⟨by unfold yr1; rw [if_pos (by omega)], hC3, by unfold yr1; rw [if_pos (by omega), (hf.1 0 (by simp; omega)).1]; exact hd, by unfold yr1; rw [if_pos (by omega)]; exact hW2.2.2.2.2, Fr33.of hf (by simp; omega)⟩

theorem menSum_le {n : Nat} {ρ : Nat → Nat} (h : RowOK n ρ) : menSum n ρ ≤ 108 := by
  have := sumN_le (n := n) (c := 9) (g := fun i => ρ (12 + i)) (fun i hi => h.2.2.1 _ (by have := h.2.1; omega))
  have h2 : n * 9 ≤ 12 * 9 := Nat.mul_le_mul_right 9 h.2.1
  unfold menSum
  omega

theorem c_X11_years {E : zE} {σ : zT} {tx : Nat × (Nat → Nat)} {bd : Nat × (Nat → Nat) × (Nat → Nat)} {sk : Nat × (Nat → Nat)} {tw : Nat × (Nat → Nat) × (Nat → Nat)} {xs : List Nat} {ld : Nat × (Nat → Nat)} {pa sh : Nat × (Nat → Nat → Nat)} {ru : Nat × (Nat → Nat) × (Nat → Nat)} {to : Nat × (Nat → Int64)} {s n : Int32} (hC : ClsIs σ tx bd sk tw xs ld pa sh ru to) (hro : Roomy ld.2) : CalM E 7 yX11_years cX11_years 5 (some .int) [.ref (zA E 0 0), .int s, .int n] σ (fun r σ' => r = some (.int (if (1 ≤ n.toInt ∧ n.toInt ≤ 60) then nI (yrs (vOf bd sk xs ld.1) s ld.2 n.toInt.toNat).2.2 else -1)) ∧ ClsIs σ' tx bd sk tw xs ld pa sh ru (if (1 ≤ n.toInt ∧ n.toInt ≤ 60) then (2, ln2 (lN (hedSum ld.1 (yrs (vOf bd sk xs ld.1) s ld.2 n.toInt.toNat).2.1)) (lN (menSum ld.1 (yrs (vOf bd sk xs ld.1) s ld.2 n.toInt.toNat).2.1))) else to) ∧ Fr33 σ σ') := by
  refine cal_of_go (own := RX11) rfl (by decide +kernel) (Nat.le_of_ble_eq_true rfl) ?_
  have hL := hC.2.2.2.2.2.1
  have hn := hL.b
  have hok := hL.1
  have hB0 := hC.2.2.1
  have hnc := hB0.1
  obtain ⟨kr0, hkr0, hz0, hR140, hW0⟩ := hC.w (kl := 6) rfl hL
  have hV := hW0.vok
  have main : ∀ n1 : Nat, n1 ≤ 60 → GoM E 7 RX11 cX11_years 5 (some .int) (fun r σ' => r = some (.int (nI (yrs (vOf bd sk xs ld.1) s ld.2 n1).2.2)) ∧ ClsIs σ' tx bd sk tw xs ld pa sh ru (2, ln2 (lN (hedSum ld.1 (yrs (vOf bd sk xs ld.1) s ld.2 n1).2.1)) (lN (menSum ld.1 (yrs (vOf bd sk xs ld.1) s ld.2 n1).2.1))) ∧ Fr33 σ σ') σ 13 [(0, .ref (zA E 0 0)), (1, .int s), (2, .int (nI n1))] [] := by
    intro n1 hn1
    have loop : ∀ (i : Nat) (τ : zT), i ≤ n1 → (ClsIs τ tx bd sk tw xs ld pa sh ru to) → (Fr33 σ τ) → (LandIs τ 7 ld.1 (yrs (vOf bd sk xs ld.1) s ld.2 i).2.1) → (τ.1 0 16 = (yrs (vOf bd sk xs ld.1) s ld.2 i).1) → GoM E 7 RX11 cX11_years 5 (some .int) (fun r σ' => r = some (.int (nI (yrs (vOf bd sk xs ld.1) s ld.2 n1).2.2)) ∧ ClsIs σ' tx bd sk tw xs ld pa sh ru (2, ln2 (lN (hedSum ld.1 (yrs (vOf bd sk xs ld.1) s ld.2 n1).2.1)) (lN (menSum ld.1 (yrs (vOf bd sk xs ld.1) s ld.2 n1).2.1))) ∧ Fr33 σ σ') τ 34 [(0, .ref (zA E 0 0)), (1, .int s), (2, .int (nI n1)), (3, .int (nI (yrs (vOf bd sk xs ld.1) s ld.2 i).2.2)), (4, .int (nI i))] [] := by
      intro i
      induction hj : n1 - i using Nat.strongRecOn generalizing i with
      | ind z ih =>
        intro τ hi hCt hF hT hd
        obtain ⟨a1, a2, a3, a4⟩ := yrs_ok (s := s) hV hok i (by omega) (by omega)
        refine go_iload (pc := 34) dX11_years_34 rfl ?_
        refine go_iload_n (i := 2) (pc := 36) dX11_years_36 rfl rfl ?_
        refine go_icmp_ge 58 (pc := 37) dX11_years_37 (by decide) (fun h37 => ?_) (fun h37 => ?_)
        · first | rw [nI_leI (by omega) (by omega)] at h37 | rw [zi_leN (by omega)] at h37 | rw [zi_Nle (by omega)] at h37 | rw [zi_le] at h37
          have ei : i = n1 := by omega
          subst ei
          refine go_aload_n (i := 0) (pc := 58) dX11_years_58 rfl rfl ?_
          refine go_getr2 fl_X11_83 (pc := 59) dX11_years_59 (by first | rfl | (apply zL_ci <;> assumption) | (apply zR_ci <;> assumption)) (by first | rfl | (apply zL_in <;> first | assumption | decide) | (apply zR_in <;> first | assumption | decide)) (by first | rfl | (apply zL_fr0 <;> assumption) | (apply zL_fr1 <;> assumption) | (apply zR_fr0 <;> assumption) | (apply zR_fr1 <;> assumption) | (apply zR_fr2 <;> assumption) | (apply zR_fr3 <;> assumption)) ?_
          refine go_aload_n (i := 0) (pc := 62) dX11_years_62 rfl rfl ?_
          refine go_getr2 fl_X11_53 (pc := 63) dX11_years_63 (by first | rfl | (apply zL_ci <;> assumption) | (apply zR_ci <;> assumption)) (by first | rfl | (apply zL_in <;> first | assumption | decide) | (apply zR_in <;> first | assumption | decide)) (by first | rfl | (apply zL_fr0 <;> assumption) | (apply zL_fr1 <;> assumption) | (apply zR_fr0 <;> assumption) | (apply zR_fr1 <;> assumption) | (apply zR_fr2 <;> assumption) | (apply zR_fr3 <;> assumption)) ?_
          refine go_callV ml_X11_195 mt_X2_allHedges (pc := 66) dX11_years_66 (c_X2_allHedges rfl hT) (by first | rfl | (apply zL_cq <;> assumption) | (apply zR_cq <;> assumption)) rfl (by first | rfl | (apply zL_in <;> first | assumption | decide) | (apply zR_in <;> first | assumption | decide)) (by decide) (by decide) rfl rfl (Nat.le_of_ble_eq_true rfl) (fun r σ' hp => ?_)
          obtain ⟨rfl, hσ⟩ := hp
          rw [hσ]
          clear hσ σ'
          dsimp only [zRet]
          refine go_i2l (pc := 69) dX11_years_69 ?_
          have hh := hedSum_le hT.1
          rw [nI_l (by omega)]
          refine go_aload_n (i := 0) (pc := 70) dX11_years_70 rfl rfl ?_
          refine go_getr2 fl_X11_53 (pc := 71) dX11_years_71 (by first | rfl | (apply zL_ci <;> assumption) | (apply zR_ci <;> assumption)) (by first | rfl | (apply zL_in <;> first | assumption | decide) | (apply zR_in <;> first | assumption | decide)) (by first | rfl | (apply zL_fr0 <;> assumption) | (apply zL_fr1 <;> assumption) | (apply zR_fr0 <;> assumption) | (apply zR_fr1 <;> assumption) | (apply zR_fr2 <;> assumption) | (apply zR_fr3 <;> assumption)) ?_
          refine go_callV ml_X11_263 mt_X2_allMen (pc := 74) dX11_years_74 (c_X2_allMen rfl hT) (by first | rfl | (apply zL_cq <;> assumption) | (apply zR_cq <;> assumption)) rfl (by first | rfl | (apply zL_in <;> first | assumption | decide) | (apply zR_in <;> first | assumption | decide)) (by decide) (by decide) rfl rfl (Nat.le_of_ble_eq_true rfl) (fun r σ' hp => ?_)
          obtain ⟨rfl, hσ⟩ := hp
          rw [hσ]
          clear hσ σ'
          dsimp only [zRet]
          refine go_i2l (pc := 77) dX11_years_77 ?_
          have hmm := menSum_le hT.1
          rw [nI_l (by omega)]
          refine go_callV ml_X11_223 mt_X9_two (pc := 78) dX11_years_78 (c_X9_two) (by first | rfl | (apply zL_cq <;> assumption) | (apply zR_cq <;> assumption)) rfl (by first | rfl | (apply zL_in <;> first | assumption | decide) | (apply zR_in <;> first | assumption | decide)) (by decide) (by decide) rfl rfl (Nat.le_of_ble_eq_true rfl) (fun r σ' hp => ?_)
          obtain ⟨rfl, hT4, hf4⟩ := hp
          dsimp only [zRet]
          refine go_iload_n (i := 3) (pc := 81) dX11_years_81 rfl rfl ?_
          refine go_ireturn (pc := 82) dX11_years_82 rfl ?_
          exact ⟨rfl, hCt.setTo (to' := (2, _)) hf4 hT4, hF.tr (Fr33.of hf4 (by simp))⟩
        · first | rw [nI_leI (by omega) (by omega)] at h37 | rw [zi_leN (by omega)] at h37 | rw [zi_Nle (by omega)] at h37 | rw [zi_le] at h37
          refine go_iload_n (i := 3) (pc := 40) dX11_years_40 rfl rfl ?_
          refine go_aload_n (i := 0) (pc := 41) dX11_years_41 rfl rfl ?_
          refine go_aload_n (i := 0) (pc := 42) dX11_years_42 rfl rfl ?_
          refine go_iconst (nI 5) (pc := 43) dX11_years_43 (by decide) ?_
          refine go_callV ml_X11_406 mt_X11_draw (pc := 44) dX11_years_44 (c_X11_draw hd (by decide) (by decide)) (by first | rfl | (apply zL_cq <;> assumption) | (apply zR_cq <;> assumption)) rfl (by first | rfl | (apply zL_in <;> first | assumption | decide) | (apply zR_in <;> first | assumption | decide)) (by decide) (by decide) rfl rfl (Nat.le_of_ble_eq_true rfl) (fun r σ' hp => ?_)
          obtain ⟨rfl, rfl⟩ := hp
          dsimp only [zRet]
          have hfu : FrG [0] τ (uS τ 0 16 (drN (yrs (vOf bd sk xs ld.1) s ld.2 i).1)) := FrG.rf.uS (by simp)
          have hC2 := hCt.fr hfu (by simp)
          have hT2 := hT.fr hfu (by simp)
          have hm5 : rn (drN (yrs (vOf bd sk xs ld.1) s ld.2 i).1) % 5 < 5 := Nat.mod_lt _ (by decide)
          refine go_callV ml_X11_409 mt_X11_drawnAct (pc := 47) dX11_years_47 (c_X11_drawnAct hC2 hT2 (uS_s _ _ _ _) (by omega) (by omega) (by omega)) (by first | rfl | (apply zL_cq <;> assumption) | (apply zR_cq <;> assumption)) rfl (by first | rfl | (apply zL_in <;> first | assumption | decide) | (apply zR_in <;> first | assumption | decide)) (by decide) (by decide) rfl rfl (Nat.le_of_ble_eq_true rfl) (fun r σ' hp => ?_)
          obtain ⟨rfl, hC3, hd3, hT3, hF3⟩ := hp
          dsimp only [zRet]
          have hF4 := (hF.tr (Fr33.of hfu (by simp))).tr hF3
          first | with_reducible refine go_iaddN (pc := 50) dX11_years_50 ?_ | refine go_iadd (pc := 50) dX11_years_50 ?_
          refine go_istore_n (i := 3) (pc := 51) dX11_years_51 rfl (by decide) ?_
          refine go_iincN (pc := 52) dX11_years_52 rfl (by decide) ?_
          refine go_goto 34 (pc := 55) dX11_years_55 (by decide) ?_
          rw [← yrs_3]
          exact ih (n1 - (i + 1)) (by omega) (i + 1) rfl _ (by omega) hC3 hF4 (by rw [yrs_2]; exact hT3) (by rw [yrs_1]; exact hd3)
    refine go_aload_n (i := 0) (pc := 13) dX11_years_13 rfl rfl ?_
    refine go_getr2 fl_X11_53 (pc := 14) dX11_years_14 (by first | rfl | (apply zL_ci <;> assumption) | (apply zR_ci <;> assumption)) (by first | rfl | (apply zL_in <;> first | assumption | decide) | (apply zR_in <;> first | assumption | decide)) (by first | rfl | (apply zL_fr0 <;> assumption) | (apply zL_fr1 <;> assumption) | (apply zR_fr0 <;> assumption) | (apply zR_fr1 <;> assumption) | (apply zR_fr2 <;> assumption) | (apply zR_fr3 <;> assumption)) ?_
    refine go_aload_n (i := 0) (pc := 17) dX11_years_17 rfl rfl ?_
    refine go_getr2 fl_X11_49 (pc := 18) dX11_years_18 (by first | rfl | (apply zL_ci <;> assumption) | (apply zR_ci <;> assumption)) (by first | rfl | (apply zL_in <;> first | assumption | decide) | (apply zR_in <;> first | assumption | decide)) (by first | rfl | (apply zL_fr0 <;> assumption) | (apply zL_fr1 <;> assumption) | (apply zR_fr0 <;> assumption) | (apply zR_fr1 <;> assumption) | (apply zR_fr2 <;> assumption) | (apply zR_fr3 <;> assumption)) ?_
    refine go_callV ml_X11_198 mt_X2_copyFrom (pc := 21) dX11_years_21 (c_X2_copyFrom rfl rfl hL) (by first | rfl | (apply zL_cq <;> assumption) | (apply zR_cq <;> assumption)) rfl (by first | rfl | (apply zL_in <;> first | assumption | decide) | (apply zR_in <;> first | assumption | decide)) (by decide) (by decide) rfl rfl (Nat.le_of_ble_eq_true rfl) (fun r σ' hp => ?_)
    obtain ⟨rfl, hb, hf⟩ := hp
    dsimp only [zRet]
    have hC1 := hC.fr hf (by simp)
    have hfu : FrG [0] σ' (uS σ' 0 16 s) := FrG.rf.uS (by simp)
    refine go_aload_n (i := 0) (pc := 24) dX11_years_24 rfl rfl ?_
    refine go_iload_n (i := 1) (pc := 25) dX11_years_25 rfl rfl ?_
    refine go_puti fp_X11_402 (pc := 26) dX11_years_26 (by first | rfl | (apply zL_fi <;> first | assumption | decide) | (apply zR_fi <;> first | assumption | decide)) rfl rfl ?_
    refine go_iconst (nI 0) (pc := 29) dX11_years_29 (by decide) ?_
    refine go_istore_n (i := 3) (pc := 30) dX11_years_30 rfl (by decide) ?_
    refine go_iconst (nI 0) (pc := 31) dX11_years_31 (by decide) ?_
    refine go_istore (pc := 32) dX11_years_32 (by decide) ?_
    exact loop 0 _ (by omega) (hC1.fr hfu (by simp)) ((Fr33.of hf (by simp)).tr (Fr33.of hfu (by simp))) (hb.fr hfu (by simp)) (uS_s _ _ _ _)
  refine go_iload_n (i := 2) (pc := 0) dX11_years_0 rfl rfl ?_
  refine go_iconst (nI 1) (pc := 1) dX11_years_1 (by decide) ?_
  refine go_icmp_lt 11 (pc := 2) dX11_years_2 (by decide) (fun h2 => ?_) (fun h2 => ?_)
  · first | rw [nI_ltI (by omega) (by omega)] at h2 | rw [zi_ltN (by omega)] at h2 | rw [zi_Nlt (by omega)] at h2 | rw [zi_lt] at h2
    refine go_iconst (-1) (pc := 11) dX11_years_11 (by decide) ?_
    refine go_ireturn (pc := 12) dX11_years_12 rfl ?_
    rw [if_neg (by omega), if_neg (by omega)]
    exact ⟨rfl, hC, Fr33.rf⟩
  · first | rw [nI_ltI (by omega) (by omega)] at h2 | rw [zi_ltN (by omega)] at h2 | rw [zi_Nlt (by omega)] at h2 | rw [zi_lt] at h2
    refine go_iload_n (i := 2) (pc := 5) dX11_years_5 rfl rfl ?_
    refine go_bipush (nI 60) (pc := 6) dX11_years_6 (by decide) ?_
    refine go_icmp_le 13 (pc := 8) dX11_years_8 (by decide) (fun h8 => ?_) (fun h8 => ?_)
    · first | rw [nI_leI (by omega) (by omega)] at h8 | rw [zi_leN (by omega)] at h8 | rw [zi_Nle (by omega)] at h8 | rw [zi_le] at h8
      rw [if_pos (by omega : (1 ≤ n.toInt ∧ n.toInt ≤ 60)), if_pos (by omega : (1 ≤ n.toInt ∧ n.toInt ≤ 60))]
      have en1 := nI_of' (x := n) (by omega)
      generalize hqn1 : n.toInt.toNat = n1 at en1 ⊢
      have hn1 : n1 ≤ 60 := by omega
      subst en1
      exact main n1 hn1
    · first | rw [nI_leI (by omega) (by omega)] at h8 | rw [zi_leN (by omega)] at h8 | rw [zi_Nle (by omega)] at h8 | rw [zi_le] at h8
      refine go_iconst (-1) (pc := 11) dX11_years_11 (by decide) ?_
      refine go_ireturn (pc := 12) dX11_years_12 rfl ?_
      rw [if_neg (by omega), if_neg (by omega)]
      exact ⟨rfl, hC, Fr33.rf⟩

