/-! Told, Sky, Band, Town: small classes -/
def skS (c : Nat) : Nat := if c = 1 then 100 else if c = 2 then 114 else if c = 3 then 97 else 102
def SkyIs (σ : zT) (ns : Nat) (sk : Nat → Nat) : Prop := 1 ≤ ns ∧ ns ≤ 20 ∧ σ.1 3 1 = nI ns ∧ ∀ i, i < ns → σ.2.1 3 1 i = nI (skS (sk i)) ∧ sk i ≤ 3
def BandIs (σ : zT) (nc : Nat) (kd ld : Nat → Nat) : Prop := nc ≤ 8 ∧ σ.1 2 2 = nI nc ∧ ∀ i, i < nc → σ.2.1 2 1 i = nI (kd i) ∧ σ.2.1 2 2 i = nI (ld i) ∧ kd i ≤ 4 ∧ 1 ≤ ld i ∧ ld i ≤ 9
def TownIs (σ : zT) (ns : Nat) (pe pu : Nat → Nat) : Prop := ns ≤ 8 ∧ σ.1 4 2 = nI ns ∧ ∀ i, i < ns → σ.2.1 4 1 i = nI (pe i) ∧ σ.2.1 4 2 i = nI (pu i) ∧ 1 ≤ pe i ∧ pe i ≤ 99 ∧ pu i ≤ 99
def ToldIs (σ : zT) (t : Nat) (g : Nat → Int64) : Prop := t ≤ 12 ∧ σ.1 30 1 = nI t ∧ ∀ i, i < t → σ.2.2.1 30 i = g i
theorem SkyIs.fr {σ σ' : zT} {ns : Nat} {sk : Nat → Nat} {S : List Nat} (h : SkyIs σ ns sk) (hf : FrG S σ σ') (hk : 3 ∉ S) : SkyIs σ' ns sk := by
  obtain ⟨e1, e2, -⟩ := hf.1 3 hk
  exact ⟨h.1, h.2.1, by rw [e1]; exact h.2.2.1, fun i hi => by rw [e2]; exact h.2.2.2 i hi⟩
theorem BandIs.fr {σ σ' : zT} {nc : Nat} {kd ld : Nat → Nat} {S : List Nat} (h : BandIs σ nc kd ld) (hf : FrG S σ σ') (hk : 2 ∉ S) : BandIs σ' nc kd ld := by
  obtain ⟨e1, e2, -⟩ := hf.1 2 hk
  exact ⟨h.1, by rw [e1]; exact h.2.1, fun i hi => by rw [e2]; exact h.2.2 i hi⟩
theorem TownIs.fr {σ σ' : zT} {ns : Nat} {pe pu : Nat → Nat} {S : List Nat} (h : TownIs σ ns pe pu) (hf : FrG S σ σ') (hk : 4 ∉ S) : TownIs σ' ns pe pu := by
  obtain ⟨e1, e2, -⟩ := hf.1 4 hk
  exact ⟨h.1, by rw [e1]; exact h.2.1, fun i hi => by rw [e2]; exact h.2.2 i hi⟩
theorem ToldIs.fr {σ σ' : zT} {t : Nat} {g : Nat → Int64} {S : List Nat} (h : ToldIs σ t g) (hf : FrG S σ σ') (hk : 30 ∉ S) : ToldIs σ' t g := by
  obtain ⟨e1, -, e3⟩ := hf.1 30 hk
  exact ⟨h.1, by rw [e1]; exact h.2.1, fun i hi => by rw [e3]; exact h.2.2 i hi⟩
theorem TextIs.fr {σ σ' : zT} {L : Nat} {f : Nat → Nat} {S : List Nat} (h : TextIs σ L f) (hf : FrG S σ σ') (hk : 1 ∉ S) : TextIs σ' L f := by
  obtain ⟨e1, e2, -⟩ := hf.1 1 hk
  exact ⟨by rw [e1]; exact h.1, h.2.1, fun i hi => by rw [e2]; exact h.2.2 i hi⟩
def ln1 (a : Int64) : Nat → Int64 := fun _ => a
def ln2 (a b : Int64) : Nat → Int64 := fun i => if i = 0 then a else b

theorem c_X9_size {E : zE} {σ : zT} {t : Nat} {g : Nat → Int64} (hT : ToldIs σ t g) : CalM E 0 yX9_size cX9_size 1 (some .int) [.ref (zA E 30 0)] σ (fun r σ' => r = some (.int (nI t)) ∧ σ' = σ) := by
  refine cal_of_go (own := RX9) rfl (by decide +kernel) (Nat.le_of_ble_eq_true rfl) ?_
  refine go_aload_n (i := 0) (pc := 0) dX9_size_0 rfl rfl ?_
  refine go_geti fl_X9_15 (pc := 1) dX9_size_1 (by first | rfl | (apply zL_fi <;> first | assumption | decide) | (apply zR_fi <;> first | assumption | decide)) ?_
  rw [hT.2.1]
  refine go_ireturn (pc := 4) dX9_size_4 rfl ?_
  exact ⟨rfl, rfl⟩

theorem c_X9_nothing {E : zE} {σ : zT}   : CalM E 0 yX9_nothing cX9_nothing 1 none [.ref (zA E 30 0)] σ (fun r σ' => r = none ∧ ToldIs σ' 0 (fun _ => 0) ∧ FrG [30] σ σ') := by
  refine cal_of_go (own := RX9) rfl (by decide +kernel) (Nat.le_of_ble_eq_true rfl) ?_
  refine go_aload_n (i := 0) (pc := 0) dX9_nothing_0 rfl rfl ?_
  refine go_iconst (nI 0) (pc := 1) dX9_nothing_1 (by decide) ?_
  refine go_puti fp_X9_15 (pc := 2) dX9_nothing_2 (by first | rfl | (apply zL_fi <;> first | assumption | decide) | (apply zR_fi <;> first | assumption | decide)) rfl rfl ?_
  refine go_return (pc := 5) dX9_nothing_5 rfl ?_
  exact ⟨rfl, ⟨by decide, by simp [uS_1], fun i hi => absurd hi (by omega)⟩, FrG.rf.uS (by simp)⟩

theorem c_X9_one {E : zE} {σ : zT} {a : Int64}  : CalM E 0 yX9_one cX9_one 3 none [.ref (zA E 30 0), .long a] σ (fun r σ' => r = none ∧ ToldIs σ' 1 (ln1 a) ∧ FrG [30] σ σ') := by
  refine cal_of_go (own := RX9) rfl (by decide +kernel) (Nat.le_of_ble_eq_true rfl) ?_
  refine go_aload_n (i := 0) (pc := 0) dX9_one_0 rfl rfl ?_
  refine go_getr2 fl_X9_9 (pc := 1) dX9_one_1 (by first | rfl | (apply zL_ci <;> assumption) | (apply zR_ci <;> assumption)) (by first | rfl | (apply zL_in <;> first | assumption | decide) | (apply zR_in <;> first | assumption | decide)) (by first | rfl | (apply zL_fr0 <;> assumption) | (apply zL_fr1 <;> assumption) | (apply zR_fr0 <;> assumption) | (apply zR_fr1 <;> assumption) | (apply zR_fr2 <;> assumption) | (apply zR_fr3 <;> assumption)) ?_
  refine go_iconst (nI 0) (pc := 4) dX9_one_4 (by decide) ?_
  refine go_lload_n (i := 1) (pc := 5) dX9_one_5 rfl rfl ?_
  refine go_lastore _ (pc := 6) dX9_one_6 (by first | rfl | (apply zL_ar1 <;> assumption) | (apply zL_ar2 <;> assumption) | (apply zR_ar1 <;> assumption) | (apply zR_ar2 <;> assumption) | (apply zR_ar3 <;> assumption) | (apply zR_ar4 <;> assumption)) (by first | rfl | (apply zL_jn <;> first | assumption | decide) | (apply zR_jn <;> first | assumption | decide)) (by first | exact zl_30 | exact zl_33 | exact zl_34) rfl (by first | assumption | omega) ?_
  refine go_aload_n (i := 0) (pc := 7) dX9_one_7 rfl rfl ?_
  refine go_iconst (nI 1) (pc := 8) dX9_one_8 (by decide) ?_
  refine go_puti fp_X9_15 (pc := 9) dX9_one_9 (by first | rfl | (apply zL_fi <;> first | assumption | decide) | (apply zR_fi <;> first | assumption | decide)) rfl rfl ?_
  refine go_return (pc := 12) dX9_one_12 rfl ?_
  refine ⟨rfl, ⟨by decide, by simp [uS_1], fun i hi => ?_⟩, (FrG.rf.uL (by simp)).uS (by simp)⟩
  have e : i = 0 := by omega
  subst e
  simp [uS_2, uL_3, updL_at, ln1]

theorem c_X9_two {E : zE} {σ : zT} {a b : Int64}  : CalM E 0 yX9_two cX9_two 5 none [.ref (zA E 30 0), .long a, .long b] σ (fun r σ' => r = none ∧ ToldIs σ' 2 (ln2 a b) ∧ FrG [30] σ σ') := by
  refine cal_of_go (own := RX9) rfl (by decide +kernel) (Nat.le_of_ble_eq_true rfl) ?_
  refine go_aload_n (i := 0) (pc := 0) dX9_two_0 rfl rfl ?_
  refine go_getr2 fl_X9_9 (pc := 1) dX9_two_1 (by first | rfl | (apply zL_ci <;> assumption) | (apply zR_ci <;> assumption)) (by first | rfl | (apply zL_in <;> first | assumption | decide) | (apply zR_in <;> first | assumption | decide)) (by first | rfl | (apply zL_fr0 <;> assumption) | (apply zL_fr1 <;> assumption) | (apply zR_fr0 <;> assumption) | (apply zR_fr1 <;> assumption) | (apply zR_fr2 <;> assumption) | (apply zR_fr3 <;> assumption)) ?_
  refine go_iconst (nI 0) (pc := 4) dX9_two_4 (by decide) ?_
  refine go_lload_n (i := 1) (pc := 5) dX9_two_5 rfl rfl ?_
  refine go_lastore _ (pc := 6) dX9_two_6 (by first | rfl | (apply zL_ar1 <;> assumption) | (apply zL_ar2 <;> assumption) | (apply zR_ar1 <;> assumption) | (apply zR_ar2 <;> assumption) | (apply zR_ar3 <;> assumption) | (apply zR_ar4 <;> assumption)) (by first | rfl | (apply zL_jn <;> first | assumption | decide) | (apply zR_jn <;> first | assumption | decide)) (by first | exact zl_30 | exact zl_33 | exact zl_34) rfl (by first | assumption | omega) ?_
  refine go_aload_n (i := 0) (pc := 7) dX9_two_7 rfl rfl ?_
  refine go_getr2 fl_X9_9 (pc := 8) dX9_two_8 (by first | rfl | (apply zL_ci <;> assumption) | (apply zR_ci <;> assumption)) (by first | rfl | (apply zL_in <;> first | assumption | decide) | (apply zR_in <;> first | assumption | decide)) (by first | rfl | (apply zL_fr0 <;> assumption) | (apply zL_fr1 <;> assumption) | (apply zR_fr0 <;> assumption) | (apply zR_fr1 <;> assumption) | (apply zR_fr2 <;> assumption) | (apply zR_fr3 <;> assumption)) ?_
  refine go_iconst (nI 1) (pc := 11) dX9_two_11 (by decide) ?_
  refine go_lload_n (i := 3) (pc := 12) dX9_two_12 rfl rfl ?_
  refine go_lastore _ (pc := 13) dX9_two_13 (by first | rfl | (apply zL_ar1 <;> assumption) | (apply zL_ar2 <;> assumption) | (apply zR_ar1 <;> assumption) | (apply zR_ar2 <;> assumption) | (apply zR_ar3 <;> assumption) | (apply zR_ar4 <;> assumption)) (by first | rfl | (apply zL_jn <;> first | assumption | decide) | (apply zR_jn <;> first | assumption | decide)) (by first | exact zl_30 | exact zl_33 | exact zl_34) rfl (by first | assumption | omega) ?_
  refine go_aload_n (i := 0) (pc := 14) dX9_two_14 rfl rfl ?_
  refine go_iconst (nI 2) (pc := 15) dX9_two_15 (by decide) ?_
  refine go_puti fp_X9_15 (pc := 16) dX9_two_16 (by first | rfl | (apply zL_fi <;> first | assumption | decide) | (apply zR_fi <;> first | assumption | decide)) rfl rfl ?_
  refine go_return (pc := 19) dX9_two_19 rfl ?_
  refine ⟨rfl, ⟨by decide, by simp [uS_1], fun i hi => ?_⟩, ((FrG.rf.uL (by simp)).uL (by simp)).uS (by simp)⟩
  have e : i = 0 ∨ i = 1 := by omega
  rcases e with rfl | rfl <;> simp [uS_2, uL_3, updL_at, ln2]

theorem c_X9_at {E : zE} {σ : zT} {t i : Nat} {g : Nat → Int64} (hT : ToldIs σ t g) (hi : i < t) : CalM E 0 yX9_at cX9_at 2 (some .long) [.ref (zA E 30 0), .int (nI i)] σ (fun r σ' => r = some (.long (g i)) ∧ σ' = σ) := by
  refine cal_of_go (own := RX9) rfl (by decide +kernel) (Nat.le_of_ble_eq_true rfl) ?_
  have ht := hT.1
  refine go_iload_n (i := 1) (pc := 0) dX9_at_0 rfl rfl ?_
  refine go_if_lt 30 (pc := 1) dX9_at_1 (by decide) (fun h => absurd h (nI_pos (by omega))) (fun _ => ?_)
  refine go_iload_n (i := 1) (pc := 4) dX9_at_4 rfl rfl ?_
  refine go_aload_n (i := 0) (pc := 5) dX9_at_5 rfl rfl ?_
  refine go_geti fl_X9_15 (pc := 6) dX9_at_6 (by first | rfl | (apply zL_fi <;> first | assumption | decide) | (apply zR_fi <;> first | assumption | decide)) ?_
  rw [hT.2.1]
  refine go_icmp_ge 30 (pc := 9) dX9_at_9 (by decide) (fun h => absurd h (nI_ge hi (by omega))) (fun _ => ?_)
  refine go_iload_n (i := 1) (pc := 12) dX9_at_12 rfl rfl ?_
  refine go_aload_n (i := 0) (pc := 13) dX9_at_13 rfl rfl ?_
  refine go_getr2 fl_X9_9 (pc := 14) dX9_at_14 (by first | rfl | (apply zL_ci <;> assumption) | (apply zR_ci <;> assumption)) (by first | rfl | (apply zL_in <;> first | assumption | decide) | (apply zR_in <;> first | assumption | decide)) (by first | rfl | (apply zL_fr0 <;> assumption) | (apply zL_fr1 <;> assumption) | (apply zR_fr0 <;> assumption) | (apply zR_fr1 <;> assumption) | (apply zR_fr2 <;> assumption) | (apply zR_fr3 <;> assumption)) ?_
  refine go_alenL (pc := 17) dX9_at_17 rfl rfl ?_
  refine go_icmp_ge 30 (pc := 18) dX9_at_18 (by decide) (fun h => absurd h (nI_ge (by omega) (by omega))) (fun _ => ?_)
  refine go_aload_n (i := 0) (pc := 21) dX9_at_21 rfl rfl ?_
  refine go_getr2 fl_X9_9 (pc := 22) dX9_at_22 (by first | rfl | (apply zL_ci <;> assumption) | (apply zR_ci <;> assumption)) (by first | rfl | (apply zL_in <;> first | assumption | decide) | (apply zR_in <;> first | assumption | decide)) (by first | rfl | (apply zL_fr0 <;> assumption) | (apply zL_fr1 <;> assumption) | (apply zR_fr0 <;> assumption) | (apply zR_fr1 <;> assumption) | (apply zR_fr2 <;> assumption) | (apply zR_fr3 <;> assumption)) ?_
  refine go_iload_n (i := 1) (pc := 25) dX9_at_25 rfl rfl ?_
  refine go_laload _ (pc := 26) dX9_at_26 (by first | rfl | (apply zL_ar1 <;> assumption) | (apply zL_ar2 <;> assumption) | (apply zR_ar1 <;> assumption) | (apply zR_ar2 <;> assumption) | (apply zR_ar3 <;> assumption) | (apply zR_ar4 <;> assumption)) (by first | rfl | (apply zL_jn <;> first | assumption | decide) | (apply zR_jn <;> first | assumption | decide)) rfl (by first | assumption | omega) ?_
  rw [hT.2.2 i hi]
  refine go_goto 31 (pc := 27) dX9_at_27 (by decide) ?_
  refine go_lreturn (pc := 31) dX9_at_31 rfl ?_
  exact ⟨rfl, rfl⟩

theorem c_X7_size {E : zE} {σ : zT} {ns : Nat} {sk : Nat → Nat} (hS : SkyIs σ ns sk) : CalM E 0 yX7_size cX7_size 1 (some .int) [.ref (zA E 3 0)] σ (fun r σ' => r = some (.int (nI ns)) ∧ σ' = σ) := by
  refine cal_of_go (own := RX7) rfl (by decide +kernel) (Nat.le_of_ble_eq_true rfl) ?_
  refine go_aload_n (i := 0) (pc := 0) dX7_size_0 rfl rfl ?_
  refine go_geti fl_X7_15 (pc := 1) dX7_size_1 (by first | rfl | (apply zL_fi <;> first | assumption | decide) | (apply zR_fi <;> first | assumption | decide)) ?_
  rw [hS.2.2.1]
  refine go_ireturn (pc := 4) dX7_size_4 rfl ?_
  exact ⟨rfl, rfl⟩

theorem c_X7_of {E : zE} {σ : zT} {ns w : Nat} {sk : Nat → Nat} (hS : SkyIs σ ns sk) (hw : w < 2 ^ 31) : CalM E 1 yX7_of cX7_of 3 (some .int) [.ref (zA E 3 0), .int (nI w)] σ (fun r σ' => r = some (.int (nI (skS (sk (w % ns))))) ∧ σ' = σ) := by
  refine cal_of_go (own := RX7) rfl (by decide +kernel) (Nat.le_of_ble_eq_true rfl) ?_
  have h1 := hS.1
  have h2 := hS.2.1
  have hm : w % ns < ns := Nat.mod_lt _ h1
  refine go_aload_n (i := 0) (pc := 0) dX7_of_0 rfl rfl ?_
  refine go_geti fl_X7_15 (pc := 1) dX7_of_1 (by first | rfl | (apply zL_fi <;> first | assumption | decide) | (apply zR_fi <;> first | assumption | decide)) ?_
  rw [hS.2.2.1]
  refine go_iconst (nI 1) (pc := 4) dX7_of_4 (by decide) ?_
  refine go_icmp_lt 17 (pc := 5) dX7_of_5 (by decide) (fun h5 => ?_) (fun h5 => ?_)
  · first | rw [nI_ltI (by omega) (by omega)] at h5 | rw [zi_ltN (by omega)] at h5 | rw [zi_Nlt (by omega)] at h5 | rw [zi_lt] at h5
    omega
  · first | rw [nI_ltI (by omega) (by omega)] at h5 | rw [zi_ltN (by omega)] at h5 | rw [zi_Nlt (by omega)] at h5 | rw [zi_lt] at h5
    refine go_aload_n (i := 0) (pc := 8) dX7_of_8 rfl rfl ?_
    refine go_geti fl_X7_15 (pc := 9) dX7_of_9 (by first | rfl | (apply zL_fi <;> first | assumption | decide) | (apply zR_fi <;> first | assumption | decide)) ?_
    rw [hS.2.2.1]
    refine go_bipush (nI 20) (pc := 12) dX7_of_12 (by decide) ?_
    refine go_icmp_le 20 (pc := 14) dX7_of_14 (by decide) (fun h14 => ?_) (fun h14 => ?_)
    · first | rw [nI_leI (by omega) (by omega)] at h14 | rw [zi_leN (by omega)] at h14 | rw [zi_Nle (by omega)] at h14 | rw [zi_le] at h14
      refine go_iload_n (i := 1) (pc := 20) dX7_of_20 rfl rfl ?_
      refine go_aload_n (i := 0) (pc := 21) dX7_of_21 rfl rfl ?_
      refine go_geti fl_X7_15 (pc := 22) dX7_of_22 (by first | rfl | (apply zL_fi <;> first | assumption | decide) | (apply zR_fi <;> first | assumption | decide)) ?_
      rw [hS.2.2.1]
      refine go_callS ml_X7_28 mt_J9_floorMod_7cf53 (pc := 25) dX7_of_25 (c_J9_floorMod_7cf53 hw (by omega) (by omega)) (by decide) (by decide) rfl rfl (Nat.le_of_ble_eq_true rfl) (fun r σ' hp => ?_)
      obtain ⟨rfl, hσ⟩ := hp
      rw [hσ]
      clear hσ σ'
      dsimp only [zRet]
      refine go_istore_n (i := 2) (pc := 28) dX7_of_28 rfl (by decide) ?_
      refine go_iload_n (i := 2) (pc := 29) dX7_of_29 rfl rfl ?_
      refine go_if_lt 48 (pc := 30) dX7_of_30 (by decide) (fun h30 => ?_) (fun h30 => ?_)
      · first | rw [zb_0d] at h30 | rw [zn_lt0 (by omega)] at h30 | rw [zi_lt0] at h30
        exact h30.elim
      · first | rw [zb_0d] at h30 | rw [zn_lt0 (by omega)] at h30 | rw [zi_lt0] at h30
        refine go_iload_n (i := 2) (pc := 33) dX7_of_33 rfl rfl ?_
        refine go_bipush (nI 20) (pc := 34) dX7_of_34 (by decide) ?_
        refine go_icmp_ge 48 (pc := 36) dX7_of_36 (by decide) (fun h36 => ?_) (fun h36 => ?_)
        · first | rw [nI_leI (by omega) (by omega)] at h36 | rw [zi_leN (by omega)] at h36 | rw [zi_Nle (by omega)] at h36 | rw [zi_le] at h36
          omega
        · first | rw [nI_leI (by omega) (by omega)] at h36 | rw [zi_leN (by omega)] at h36 | rw [zi_Nle (by omega)] at h36 | rw [zi_le] at h36
          refine go_aload_n (i := 0) (pc := 39) dX7_of_39 rfl rfl ?_
          refine go_getr2 fl_X7_9 (pc := 40) dX7_of_40 (by first | rfl | (apply zL_ci <;> assumption) | (apply zR_ci <;> assumption)) (by first | rfl | (apply zL_in <;> first | assumption | decide) | (apply zR_in <;> first | assumption | decide)) (by first | rfl | (apply zL_fr0 <;> assumption) | (apply zL_fr1 <;> assumption) | (apply zR_fr0 <;> assumption) | (apply zR_fr1 <;> assumption) | (apply zR_fr2 <;> assumption) | (apply zR_fr3 <;> assumption)) ?_
          refine go_iload_n (i := 2) (pc := 43) dX7_of_43 rfl rfl ?_
          refine go_iaload _ (pc := 44) dX7_of_44 (by first | rfl | (apply zL_ar1 <;> assumption) | (apply zL_ar2 <;> assumption) | (apply zR_ar1 <;> assumption) | (apply zR_ar2 <;> assumption) | (apply zR_ar3 <;> assumption) | (apply zR_ar4 <;> assumption)) (by first | rfl | (apply zL_jn <;> first | assumption | decide) | (apply zR_jn <;> first | assumption | decide)) rfl (by first | assumption | omega) ?_
          rw [(hS.2.2.2 (w % ns) hm).1]
          refine go_goto 50 (pc := 45) dX7_of_45 (by decide) ?_
          refine go_ireturn (pc := 50) dX7_of_50 rfl ?_
          exact ⟨rfl, rfl⟩
    · first | rw [nI_leI (by omega) (by omega)] at h14 | rw [zi_leN (by omega)] at h14 | rw [zi_Nle (by omega)] at h14 | rw [zi_le] at h14
      omega

theorem c_X0_size {E : zE} {σ : zT} {nc : Nat} {kd ld : Nat → Nat} (hB : BandIs σ nc kd ld) : CalM E 0 yX0_size cX0_size 1 (some .int) [.ref (zA E 2 0)] σ (fun r σ' => r = some (.int (nI nc)) ∧ σ' = σ) := by
  refine cal_of_go (own := RX0) rfl (by decide +kernel) (Nat.le_of_ble_eq_true rfl) ?_
  refine go_aload_n (i := 0) (pc := 0) dX0_size_0 rfl rfl ?_
  refine go_geti fl_X0_34 (pc := 1) dX0_size_1 (by first | rfl | (apply zL_fi <;> first | assumption | decide) | (apply zR_fi <;> first | assumption | decide)) ?_
  rw [hB.2.1]
  refine go_ireturn (pc := 4) dX0_size_4 rfl ?_
  exact ⟨rfl, rfl⟩

theorem c_X0_has {E : zE} {σ : zT} {nc : Nat} {kd ld : Nat → Nat} {m : Int32} (hB : BandIs σ nc kd ld) : CalM E 0 yX0_has cX0_has 2 (some .boolean) [.ref (zA E 2 0), .int m] σ (fun r σ' => r = some (.int (zb (decide (0 ≤ m.toInt ∧ m.toInt < (nc : Int))))) ∧ σ' = σ) := by
  refine cal_of_go (own := RX0) rfl (by decide +kernel) (Nat.le_of_ble_eq_true rfl) ?_
  have hn := hB.1
  refine go_iload_n (i := 1) (pc := 0) dX0_has_0 rfl rfl ?_
  refine go_if_lt 22 (pc := 1) dX0_has_1 (by decide) (fun h1 => ?_) (fun h1 => ?_)
  · first | rw [zb_0d] at h1 | rw [zn_lt0 (by omega)] at h1 | rw [zi_lt0] at h1
    refine go_iconst (nI 0) (pc := 22) dX0_has_22 (by decide) ?_
    refine go_zreturn (pc := 23) dX0_has_23 rfl (by first | rfl | (apply zb_nar)) ?_
    first | exact ⟨zr_f (by omega), rfl⟩ | exact ⟨zr_t (by omega), rfl⟩
  · first | rw [zb_0d] at h1 | rw [zn_lt0 (by omega)] at h1 | rw [zi_lt0] at h1
    refine go_iload_n (i := 1) (pc := 4) dX0_has_4 rfl rfl ?_
    refine go_aload_n (i := 0) (pc := 5) dX0_has_5 rfl rfl ?_
    refine go_geti fl_X0_34 (pc := 6) dX0_has_6 (by first | rfl | (apply zL_fi <;> first | assumption | decide) | (apply zR_fi <;> first | assumption | decide)) ?_
    rw [hB.2.1]
    refine go_icmp_ge 22 (pc := 9) dX0_has_9 (by decide) (fun h9 => ?_) (fun h9 => ?_)
    · first | rw [nI_leI (by omega) (by omega)] at h9 | rw [zi_leN (by omega)] at h9 | rw [zi_Nle (by omega)] at h9 | rw [zi_le] at h9
      refine go_iconst (nI 0) (pc := 22) dX0_has_22 (by decide) ?_
      refine go_zreturn (pc := 23) dX0_has_23 rfl (by first | rfl | (apply zb_nar)) ?_
      first | exact ⟨zr_f (by omega), rfl⟩ | exact ⟨zr_t (by omega), rfl⟩
    · first | rw [nI_leI (by omega) (by omega)] at h9 | rw [zi_leN (by omega)] at h9 | rw [zi_Nle (by omega)] at h9 | rw [zi_le] at h9
      refine go_iload_n (i := 1) (pc := 12) dX0_has_12 rfl rfl ?_
      refine go_bipush (nI 8) (pc := 13) dX0_has_13 (by decide) ?_
      refine go_icmp_ge 22 (pc := 15) dX0_has_15 (by decide) (fun h15 => ?_) (fun h15 => ?_)
      · first | rw [nI_leI (by omega) (by omega)] at h15 | rw [zi_leN (by omega)] at h15 | rw [zi_Nle (by omega)] at h15 | rw [zi_le] at h15
        refine go_iconst (nI 0) (pc := 22) dX0_has_22 (by decide) ?_
        refine go_zreturn (pc := 23) dX0_has_23 rfl (by first | rfl | (apply zb_nar)) ?_
        first | exact ⟨zr_f (by omega), rfl⟩ | exact ⟨zr_t (by omega), rfl⟩
      · first | rw [nI_leI (by omega) (by omega)] at h15 | rw [zi_leN (by omega)] at h15 | rw [zi_Nle (by omega)] at h15 | rw [zi_le] at h15
        refine go_iconst (nI 1) (pc := 18) dX0_has_18 (by decide) ?_
        refine go_goto 23 (pc := 19) dX0_has_19 (by decide) ?_
        refine go_zreturn (pc := 23) dX0_has_23 rfl (by first | rfl | (apply zb_nar)) ?_
        first | exact ⟨zr_f (by omega), rfl⟩ | exact ⟨zr_t (by omega), rfl⟩

theorem c_X0_hasN {E : zE} {σ : zT} {nc : Nat} {kd ld : Nat → Nat} {m : Nat} (hB : BandIs σ nc kd ld) (hm : m < nc) : CalM E 0 yX0_has cX0_has 2 (some .boolean) [.ref (zA E 2 0), .int (nI m)] σ (fun r σ' => r = some (.int (nI 1)) ∧ σ' = σ) :=
  cal_weak (c_X0_has hB) (fun r σ' h => by
    have hn := hB.1
    rw [nI_toInt (by omega), zb_t (decide_eq_true (by omega))] at h
    exact h)

theorem c_X0_kindOf {E : zE} {σ : zT} {nc : Nat} {kd ld : Nat → Nat} {m : Nat} (hB : BandIs σ nc kd ld) (hm : m < nc) : CalM E 1 yX0_kindOf cX0_kindOf 2 (some .int) [.ref (zA E 2 0), .int (nI m)] σ (fun r σ' => r = some (.int (nI (kd m))) ∧ σ' = σ) := by
  refine cal_of_go (own := RX0) rfl (by decide +kernel) (Nat.le_of_ble_eq_true rfl) ?_
  have hn := hB.1
  refine go_aload_n (i := 0) (pc := 0) dX0_kindOf_0 rfl rfl ?_
  refine go_iload_n (i := 1) (pc := 1) dX0_kindOf_1 rfl rfl ?_
  refine go_callV ml_X0_41 mt_X0_has (pc := 2) dX0_kindOf_2 (c_X0_hasN hB hm) (by first | rfl | (apply zL_cq <;> assumption) | (apply zR_cq <;> assumption)) rfl (by first | rfl | (apply zL_in <;> first | assumption | decide) | (apply zR_in <;> first | assumption | decide)) (by decide) (by decide) rfl rfl (Nat.le_of_ble_eq_true rfl) (fun r σ' hp => ?_)
  obtain ⟨rfl, hσ⟩ := hp
  rw [hσ]
  clear hσ σ'
  dsimp only [zRet]
  refine go_if_eq 17 (pc := 5) dX0_kindOf_5 (by decide) (fun h5 => ?_) (fun h5 => ?_)
  · exact absurd h5 (by decide)
  · refine go_aload_n (i := 0) (pc := 8) dX0_kindOf_8 rfl rfl ?_
    refine go_getr2 fl_X0_9 (pc := 9) dX0_kindOf_9 (by first | rfl | (apply zL_ci <;> assumption) | (apply zR_ci <;> assumption)) (by first | rfl | (apply zL_in <;> first | assumption | decide) | (apply zR_in <;> first | assumption | decide)) (by first | rfl | (apply zL_fr0 <;> assumption) | (apply zL_fr1 <;> assumption) | (apply zR_fr0 <;> assumption) | (apply zR_fr1 <;> assumption) | (apply zR_fr2 <;> assumption) | (apply zR_fr3 <;> assumption)) ?_
    refine go_iload_n (i := 1) (pc := 12) dX0_kindOf_12 rfl rfl ?_
    refine go_iaload _ (pc := 13) dX0_kindOf_13 (by first | rfl | (apply zL_ar1 <;> assumption) | (apply zL_ar2 <;> assumption) | (apply zR_ar1 <;> assumption) | (apply zR_ar2 <;> assumption) | (apply zR_ar3 <;> assumption) | (apply zR_ar4 <;> assumption)) (by first | rfl | (apply zL_jn <;> first | assumption | decide) | (apply zR_jn <;> first | assumption | decide)) rfl (by first | assumption | omega) ?_
    rw [(hB.2.2 m hm).1]
    refine go_goto 18 (pc := 14) dX0_kindOf_14 (by decide) ?_
    refine go_ireturn (pc := 18) dX0_kindOf_18 rfl ?_
    exact ⟨rfl, rfl⟩

theorem c_X0_loadOf {E : zE} {σ : zT} {nc : Nat} {kd ld : Nat → Nat} {m : Nat} (hB : BandIs σ nc kd ld) (hm : m < nc) : CalM E 1 yX0_loadOf cX0_loadOf 2 (some .int) [.ref (zA E 2 0), .int (nI m)] σ (fun r σ' => r = some (.int (nI (ld m))) ∧ σ' = σ) := by
  refine cal_of_go (own := RX0) rfl (by decide +kernel) (Nat.le_of_ble_eq_true rfl) ?_
  have hn := hB.1
  refine go_aload_n (i := 0) (pc := 0) dX0_loadOf_0 rfl rfl ?_
  refine go_iload_n (i := 1) (pc := 1) dX0_loadOf_1 rfl rfl ?_
  refine go_callV ml_X0_41 mt_X0_has (pc := 2) dX0_loadOf_2 (c_X0_hasN hB hm) (by first | rfl | (apply zL_cq <;> assumption) | (apply zR_cq <;> assumption)) rfl (by first | rfl | (apply zL_in <;> first | assumption | decide) | (apply zR_in <;> first | assumption | decide)) (by decide) (by decide) rfl rfl (Nat.le_of_ble_eq_true rfl) (fun r σ' hp => ?_)
  obtain ⟨rfl, hσ⟩ := hp
  rw [hσ]
  clear hσ σ'
  dsimp only [zRet]
  refine go_if_eq 17 (pc := 5) dX0_loadOf_5 (by decide) (fun h5 => ?_) (fun h5 => ?_)
  · exact absurd h5 (by decide)
  · refine go_aload_n (i := 0) (pc := 8) dX0_loadOf_8 rfl rfl ?_
    refine go_getr2 fl_X0_15 (pc := 9) dX0_loadOf_9 (by first | rfl | (apply zL_ci <;> assumption) | (apply zR_ci <;> assumption)) (by first | rfl | (apply zL_in <;> first | assumption | decide) | (apply zR_in <;> first | assumption | decide)) (by first | rfl | (apply zL_fr0 <;> assumption) | (apply zL_fr1 <;> assumption) | (apply zR_fr0 <;> assumption) | (apply zR_fr1 <;> assumption) | (apply zR_fr2 <;> assumption) | (apply zR_fr3 <;> assumption)) ?_
    refine go_iload_n (i := 1) (pc := 12) dX0_loadOf_12 rfl rfl ?_
    refine go_iaload _ (pc := 13) dX0_loadOf_13 (by first | rfl | (apply zL_ar1 <;> assumption) | (apply zL_ar2 <;> assumption) | (apply zR_ar1 <;> assumption) | (apply zR_ar2 <;> assumption) | (apply zR_ar3 <;> assumption) | (apply zR_ar4 <;> assumption)) (by first | rfl | (apply zL_jn <;> first | assumption | decide) | (apply zR_jn <;> first | assumption | decide)) rfl (by first | assumption | omega) ?_
    rw [(hB.2.2 m hm).2.1]
    refine go_goto 18 (pc := 14) dX0_loadOf_14 (by decide) ?_
    refine go_ireturn (pc := 18) dX0_loadOf_18 rfl ?_
    exact ⟨rfl, rfl⟩

theorem c_X10_size {E : zE} {σ : zT} {ns : Nat} {pe pu : Nat → Nat} (hW : TownIs σ ns pe pu) : CalM E 0 yX10_size cX10_size 1 (some .int) [.ref (zA E 4 0)] σ (fun r σ' => r = some (.int (nI ns)) ∧ σ' = σ) := by
  refine cal_of_go (own := RX10) rfl (by decide +kernel) (Nat.le_of_ble_eq_true rfl) ?_
  refine go_aload_n (i := 0) (pc := 0) dX10_size_0 rfl rfl ?_
  refine go_geti fl_X10_30 (pc := 1) dX10_size_1 (by first | rfl | (apply zL_fi <;> first | assumption | decide) | (apply zR_fi <;> first | assumption | decide)) ?_
  rw [hW.2.1]
  refine go_ireturn (pc := 4) dX10_size_4 rfl ?_
  exact ⟨rfl, rfl⟩

theorem c_X10_has {E : zE} {σ : zT} {ns : Nat} {pe pu : Nat → Nat} {m : Int32} (hW : TownIs σ ns pe pu) : CalM E 0 yX10_has cX10_has 2 (some .boolean) [.ref (zA E 4 0), .int m] σ (fun r σ' => r = some (.int (zb (decide (0 ≤ m.toInt ∧ m.toInt < (ns : Int))))) ∧ σ' = σ) := by
  refine cal_of_go (own := RX10) rfl (by decide +kernel) (Nat.le_of_ble_eq_true rfl) ?_
  have hn := hW.1
  refine go_iload_n (i := 1) (pc := 0) dX10_has_0 rfl rfl ?_
  refine go_if_lt 22 (pc := 1) dX10_has_1 (by decide) (fun h1 => ?_) (fun h1 => ?_)
  · first | rw [zb_0d] at h1 | rw [zn_lt0 (by omega)] at h1 | rw [zi_lt0] at h1
    refine go_iconst (nI 0) (pc := 22) dX10_has_22 (by decide) ?_
    refine go_zreturn (pc := 23) dX10_has_23 rfl (by first | rfl | (apply zb_nar)) ?_
    first | exact ⟨zr_f (by omega), rfl⟩ | exact ⟨zr_t (by omega), rfl⟩
  · first | rw [zb_0d] at h1 | rw [zn_lt0 (by omega)] at h1 | rw [zi_lt0] at h1
    refine go_iload_n (i := 1) (pc := 4) dX10_has_4 rfl rfl ?_
    refine go_aload_n (i := 0) (pc := 5) dX10_has_5 rfl rfl ?_
    refine go_geti fl_X10_30 (pc := 6) dX10_has_6 (by first | rfl | (apply zL_fi <;> first | assumption | decide) | (apply zR_fi <;> first | assumption | decide)) ?_
    rw [hW.2.1]
    refine go_icmp_ge 22 (pc := 9) dX10_has_9 (by decide) (fun h9 => ?_) (fun h9 => ?_)
    · first | rw [nI_leI (by omega) (by omega)] at h9 | rw [zi_leN (by omega)] at h9 | rw [zi_Nle (by omega)] at h9 | rw [zi_le] at h9
      refine go_iconst (nI 0) (pc := 22) dX10_has_22 (by decide) ?_
      refine go_zreturn (pc := 23) dX10_has_23 rfl (by first | rfl | (apply zb_nar)) ?_
      first | exact ⟨zr_f (by omega), rfl⟩ | exact ⟨zr_t (by omega), rfl⟩
    · first | rw [nI_leI (by omega) (by omega)] at h9 | rw [zi_leN (by omega)] at h9 | rw [zi_Nle (by omega)] at h9 | rw [zi_le] at h9
      refine go_iload_n (i := 1) (pc := 12) dX10_has_12 rfl rfl ?_
      refine go_bipush (nI 8) (pc := 13) dX10_has_13 (by decide) ?_
      refine go_icmp_ge 22 (pc := 15) dX10_has_15 (by decide) (fun h15 => ?_) (fun h15 => ?_)
      · first | rw [nI_leI (by omega) (by omega)] at h15 | rw [zi_leN (by omega)] at h15 | rw [zi_Nle (by omega)] at h15 | rw [zi_le] at h15
        refine go_iconst (nI 0) (pc := 22) dX10_has_22 (by decide) ?_
        refine go_zreturn (pc := 23) dX10_has_23 rfl (by first | rfl | (apply zb_nar)) ?_
        first | exact ⟨zr_f (by omega), rfl⟩ | exact ⟨zr_t (by omega), rfl⟩
      · first | rw [nI_leI (by omega) (by omega)] at h15 | rw [zi_leN (by omega)] at h15 | rw [zi_Nle (by omega)] at h15 | rw [zi_le] at h15
        refine go_iconst (nI 1) (pc := 18) dX10_has_18 (by decide) ?_
        refine go_goto 23 (pc := 19) dX10_has_19 (by decide) ?_
        refine go_zreturn (pc := 23) dX10_has_23 rfl (by first | rfl | (apply zb_nar)) ?_
        first | exact ⟨zr_f (by omega), rfl⟩ | exact ⟨zr_t (by omega), rfl⟩

theorem c_X10_hasN {E : zE} {σ : zT} {ns : Nat} {pe pu : Nat → Nat} {m : Nat} (hW : TownIs σ ns pe pu) (hm : m < ns) : CalM E 0 yX10_has cX10_has 2 (some .boolean) [.ref (zA E 4 0), .int (nI m)] σ (fun r σ' => r = some (.int (nI 1)) ∧ σ' = σ) :=
  cal_weak (c_X10_has hW) (fun r σ' h => by
    have hn := hW.1
    rw [nI_toInt (by omega), zb_t (decide_eq_true (by omega))] at h
    exact h)

theorem c_X10_peopleOf {E : zE} {σ : zT} {ns : Nat} {pe pu : Nat → Nat} {m : Nat} (hW : TownIs σ ns pe pu) (hm : m < ns) : CalM E 1 yX10_peopleOf cX10_peopleOf 2 (some .int) [.ref (zA E 4 0), .int (nI m)] σ (fun r σ' => r = some (.int (nI (pe m))) ∧ σ' = σ) := by
  refine cal_of_go (own := RX10) rfl (by decide +kernel) (Nat.le_of_ble_eq_true rfl) ?_
  have hn := hW.1
  refine go_aload_n (i := 0) (pc := 0) dX10_peopleOf_0 rfl rfl ?_
  refine go_iload_n (i := 1) (pc := 1) dX10_peopleOf_1 rfl rfl ?_
  refine go_callV ml_X10_48 mt_X10_has (pc := 2) dX10_peopleOf_2 (c_X10_hasN hW hm) (by first | rfl | (apply zL_cq <;> assumption) | (apply zR_cq <;> assumption)) rfl (by first | rfl | (apply zL_in <;> first | assumption | decide) | (apply zR_in <;> first | assumption | decide)) (by decide) (by decide) rfl rfl (Nat.le_of_ble_eq_true rfl) (fun r σ' hp => ?_)
  obtain ⟨rfl, hσ⟩ := hp
  rw [hσ]
  clear hσ σ'
  dsimp only [zRet]
  refine go_if_eq 17 (pc := 5) dX10_peopleOf_5 (by decide) (fun h5 => ?_) (fun h5 => ?_)
  · exact absurd h5 (by decide)
  · refine go_aload_n (i := 0) (pc := 8) dX10_peopleOf_8 rfl rfl ?_
    refine go_getr2 fl_X10_9 (pc := 9) dX10_peopleOf_9 (by first | rfl | (apply zL_ci <;> assumption) | (apply zR_ci <;> assumption)) (by first | rfl | (apply zL_in <;> first | assumption | decide) | (apply zR_in <;> first | assumption | decide)) (by first | rfl | (apply zL_fr0 <;> assumption) | (apply zL_fr1 <;> assumption) | (apply zR_fr0 <;> assumption) | (apply zR_fr1 <;> assumption) | (apply zR_fr2 <;> assumption) | (apply zR_fr3 <;> assumption)) ?_
    refine go_iload_n (i := 1) (pc := 12) dX10_peopleOf_12 rfl rfl ?_
    refine go_iaload _ (pc := 13) dX10_peopleOf_13 (by first | rfl | (apply zL_ar1 <;> assumption) | (apply zL_ar2 <;> assumption) | (apply zR_ar1 <;> assumption) | (apply zR_ar2 <;> assumption) | (apply zR_ar3 <;> assumption) | (apply zR_ar4 <;> assumption)) (by first | rfl | (apply zL_jn <;> first | assumption | decide) | (apply zR_jn <;> first | assumption | decide)) rfl (by first | assumption | omega) ?_
    rw [(hW.2.2 m hm).1]
    refine go_goto 18 (pc := 14) dX10_peopleOf_14 (by decide) ?_
    refine go_ireturn (pc := 18) dX10_peopleOf_18 rfl ?_
    exact ⟨rfl, rfl⟩

theorem c_X10_purseOf {E : zE} {σ : zT} {ns : Nat} {pe pu : Nat → Nat} {m : Nat} (hW : TownIs σ ns pe pu) (hm : m < ns) : CalM E 1 yX10_purseOf cX10_purseOf 2 (some .int) [.ref (zA E 4 0), .int (nI m)] σ (fun r σ' => r = some (.int (nI (pu m))) ∧ σ' = σ) := by
  refine cal_of_go (own := RX10) rfl (by decide +kernel) (Nat.le_of_ble_eq_true rfl) ?_
  have hn := hW.1
  refine go_aload_n (i := 0) (pc := 0) dX10_purseOf_0 rfl rfl ?_
  refine go_iload_n (i := 1) (pc := 1) dX10_purseOf_1 rfl rfl ?_
  refine go_callV ml_X10_48 mt_X10_has (pc := 2) dX10_purseOf_2 (c_X10_hasN hW hm) (by first | rfl | (apply zL_cq <;> assumption) | (apply zR_cq <;> assumption)) rfl (by first | rfl | (apply zL_in <;> first | assumption | decide) | (apply zR_in <;> first | assumption | decide)) (by decide) (by decide) rfl rfl (Nat.le_of_ble_eq_true rfl) (fun r σ' hp => ?_)
  obtain ⟨rfl, hσ⟩ := hp
  rw [hσ]
  clear hσ σ'
  dsimp only [zRet]
  refine go_if_eq 17 (pc := 5) dX10_purseOf_5 (by decide) (fun h5 => ?_) (fun h5 => ?_)
  · exact absurd h5 (by decide)
  · refine go_aload_n (i := 0) (pc := 8) dX10_purseOf_8 rfl rfl ?_
    refine go_getr2 fl_X10_15 (pc := 9) dX10_purseOf_9 (by first | rfl | (apply zL_ci <;> assumption) | (apply zR_ci <;> assumption)) (by first | rfl | (apply zL_in <;> first | assumption | decide) | (apply zR_in <;> first | assumption | decide)) (by first | rfl | (apply zL_fr0 <;> assumption) | (apply zL_fr1 <;> assumption) | (apply zR_fr0 <;> assumption) | (apply zR_fr1 <;> assumption) | (apply zR_fr2 <;> assumption) | (apply zR_fr3 <;> assumption)) ?_
    refine go_iload_n (i := 1) (pc := 12) dX10_purseOf_12 rfl rfl ?_
    refine go_iaload _ (pc := 13) dX10_purseOf_13 (by first | rfl | (apply zL_ar1 <;> assumption) | (apply zL_ar2 <;> assumption) | (apply zR_ar1 <;> assumption) | (apply zR_ar2 <;> assumption) | (apply zR_ar3 <;> assumption) | (apply zR_ar4 <;> assumption)) (by first | rfl | (apply zL_jn <;> first | assumption | decide) | (apply zR_jn <;> first | assumption | decide)) rfl (by first | assumption | omega) ?_
    rw [(hW.2.2 m hm).2.1]
    refine go_goto 18 (pc := 14) dX10_purseOf_14 (by decide) ?_
    refine go_ireturn (pc := 18) dX10_purseOf_18 rfl ?_
    exact ⟨rfl, rfl⟩

theorem c_X10_everyone {E : zE} {σ : zT} {ns : Nat} {pe pu : Nat → Nat} (hW : TownIs σ ns pe pu) : CalM E 2 yX10_everyone cX10_everyone 3 (some .int) [.ref (zA E 4 0)] σ (fun r σ' => r = some (.int (nI (sumN ns pe))) ∧ σ' = σ) := by
  refine cal_of_go (own := RX10) rfl (by decide +kernel) (Nat.le_of_ble_eq_true rfl) ?_
  have hn := hW.1
  have loop : ∀ i : Nat, i ≤ ns → GoM E 2 RX10 cX10_everyone 3 (some .int) (fun r σ' => r = some (.int (nI (sumN ns pe))) ∧ σ' = σ) σ 4 [(0, .ref (zA E 4 0)), (1, .int (nI (sumN i pe))), (2, .int (nI i))] [] := by
    intro i
    induction hj : ns - i using Nat.strongRecOn generalizing i with
    | ind j ih =>
      intro hi
      refine go_iload_n (i := 2) (pc := 4) dX10_everyone_4 rfl rfl ?_
      refine go_aload_n (i := 0) (pc := 5) dX10_everyone_5 rfl rfl ?_
      refine go_geti fl_X10_30 (pc := 6) dX10_everyone_6 (by first | rfl | (apply zL_fi <;> first | assumption | decide) | (apply zR_fi <;> first | assumption | decide)) ?_
      rw [hW.2.1]
      refine go_icmp_ge 26 (pc := 9) dX10_everyone_9 (by decide) (fun h9 => ?_) (fun h9 => ?_)
      · first | rw [nI_leI (by omega) (by omega)] at h9 | rw [zi_leN (by omega)] at h9 | rw [zi_Nle (by omega)] at h9 | rw [zi_le] at h9
        have e : i = ns := by omega
        subst e
        refine go_iload_n (i := 1) (pc := 26) dX10_everyone_26 rfl rfl ?_
        refine go_ireturn (pc := 27) dX10_everyone_27 rfl ?_
        exact ⟨rfl, rfl⟩
      · first | rw [nI_leI (by omega) (by omega)] at h9 | rw [zi_leN (by omega)] at h9 | rw [zi_Nle (by omega)] at h9 | rw [zi_le] at h9
        refine go_iload_n (i := 1) (pc := 12) dX10_everyone_12 rfl rfl ?_
        refine go_aload_n (i := 0) (pc := 13) dX10_everyone_13 rfl rfl ?_
        refine go_iload_n (i := 2) (pc := 14) dX10_everyone_14 rfl rfl ?_
        refine go_callV ml_X10_52 mt_X10_peopleOf (pc := 15) dX10_everyone_15 (c_X10_peopleOf hW (by omega)) (by first | rfl | (apply zL_cq <;> assumption) | (apply zR_cq <;> assumption)) rfl (by first | rfl | (apply zL_in <;> first | assumption | decide) | (apply zR_in <;> first | assumption | decide)) (by decide) (by decide) rfl rfl (Nat.le_of_ble_eq_true rfl) (fun r σ' hp => ?_)
        obtain ⟨rfl, hσ⟩ := hp
        rw [hσ]
        clear hσ σ'
        dsimp only [zRet]
        first | with_reducible refine go_iaddN (pc := 18) dX10_everyone_18 ?_ | refine go_iadd (pc := 18) dX10_everyone_18 ?_
        refine go_istore_n (i := 1) (pc := 19) dX10_everyone_19 rfl (by decide) ?_
        refine go_iincN (pc := 20) dX10_everyone_20 rfl (by decide) ?_
        refine go_goto 4 (pc := 23) dX10_everyone_23 (by decide) ?_
        exact ih (ns - (i + 1)) (by omega) (i + 1) rfl (by omega)
  refine go_iconst (nI 0) (pc := 0) dX10_everyone_0 (by decide) ?_
  refine go_istore_n (i := 1) (pc := 1) dX10_everyone_1 rfl (by decide) ?_
  refine go_iconst (nI 0) (pc := 2) dX10_everyone_2 (by decide) ?_
  refine go_istore_n (i := 2) (pc := 3) dX10_everyone_3 rfl (by decide) ?_
  exact loop 0 (by omega)

/-- how many people's purse is less than v; which sorts -/
def poor (pe pu : Nat → Nat) (v n : Nat) : Nat := sumN n (fun i => if pu i < v then pe i else 0)
def poorB (pu : Nat → Nat) (v n : Nat) : Nat := sumN n (fun i => if pu i < v then 2 ^ i else 0)
theorem bits_lt {b : Nat → Prop} [DecidablePred b] (n : Nat) : sumN n (fun i => if b i then 2 ^ i else 0) < 2 ^ n := by
  induction n with
  | zero => exact (by decide : 0 < 2 ^ 0)
  | succ n ih =>
    rw [sumN, Nat.pow_succ]
    split <;> omega
theorem or_add {a i : Nat} (h : a < 2 ^ i) : a ||| 2 ^ i = a + 2 ^ i := by
  rw [Nat.or_comm, Nat.add_comm]
  have := Nat.two_pow_add_eq_or_of_lt h 1
  rw [Nat.mul_one] at this
  exact this.symm
theorem zor2 {a i : Nat} (h : a < 2 ^ i) (hi : i < 12) : nI a ||| (nI 1 <<< (nI i &&& 31)) = nI (a + 2 ^ i) := by
  rw [zshl1 i hi, zorN, or_add h]

theorem c_X10_poorer {E : zE} {σ : zT} {ns : Nat} {pe pu : Nat → Nat} {v : Nat} (hW : TownIs σ ns pe pu) (hv : v < 2 ^ 31) : CalM E 2 yX10_poorer cX10_poorer 4 (some .int) [.ref (zA E 4 0), .int (nI v)] σ (fun r σ' => r = some (.int (nI (poor pe pu v ns))) ∧ σ' = σ) := by
  refine cal_of_go (own := RX10) rfl (by decide +kernel) (Nat.le_of_ble_eq_true rfl) ?_
  have hn := hW.1
  have loop : ∀ i : Nat, i ≤ ns → GoM E 2 RX10 cX10_poorer 4 (some .int) (fun r σ' => r = some (.int (nI (poor pe pu v ns))) ∧ σ' = σ) σ 4 [(0, .ref (zA E 4 0)), (1, .int (nI v)), (2, .int (nI (poor pe pu v i))), (3, .int (nI i))] [] := by
    intro i
    induction hj : ns - i using Nat.strongRecOn generalizing i with
    | ind j ih =>
      intro hi
      refine go_iload_n (i := 3) (pc := 4) dX10_poorer_4 rfl rfl ?_
      refine go_aload_n (i := 0) (pc := 5) dX10_poorer_5 rfl rfl ?_
      refine go_geti fl_X10_30 (pc := 6) dX10_poorer_6 (by first | rfl | (apply zL_fi <;> first | assumption | decide) | (apply zR_fi <;> first | assumption | decide)) ?_
      rw [hW.2.1]
      refine go_icmp_ge 35 (pc := 9) dX10_poorer_9 (by decide) (fun h9 => ?_) (fun h9 => ?_)
      · first | rw [nI_leI (by omega) (by omega)] at h9 | rw [zi_leN (by omega)] at h9 | rw [zi_Nle (by omega)] at h9 | rw [zi_le] at h9
        have e : i = ns := by omega
        subst e
        refine go_iload_n (i := 2) (pc := 35) dX10_poorer_35 rfl rfl ?_
        refine go_ireturn (pc := 36) dX10_poorer_36 rfl ?_
        exact ⟨rfl, rfl⟩
      · first | rw [nI_leI (by omega) (by omega)] at h9 | rw [zi_leN (by omega)] at h9 | rw [zi_Nle (by omega)] at h9 | rw [zi_le] at h9
        refine go_aload_n (i := 0) (pc := 12) dX10_poorer_12 rfl rfl ?_
        refine go_iload_n (i := 3) (pc := 13) dX10_poorer_13 rfl rfl ?_
        refine go_callV ml_X10_55 mt_X10_purseOf (pc := 14) dX10_poorer_14 (c_X10_purseOf hW (by omega)) (by first | rfl | (apply zL_cq <;> assumption) | (apply zR_cq <;> assumption)) rfl (by first | rfl | (apply zL_in <;> first | assumption | decide) | (apply zR_in <;> first | assumption | decide)) (by decide) (by decide) rfl rfl (Nat.le_of_ble_eq_true rfl) (fun r σ' hp => ?_)
        obtain ⟨rfl, hσ⟩ := hp
        rw [hσ]
        clear hσ σ'
        dsimp only [zRet]
        refine go_iload_n (i := 1) (pc := 17) dX10_poorer_17 rfl rfl ?_
        have h4 := (hW.2.2 i (by omega)).2.2.2.2
        refine go_icmp_ge 29 (pc := 18) dX10_poorer_18 (by decide) (fun h18 => ?_) (fun h18 => ?_)
        · first | rw [nI_leI (by omega) (by omega)] at h18 | rw [zi_leN (by omega)] at h18 | rw [zi_Nle (by omega)] at h18 | rw [zi_le] at h18
          have h5 := hW.2.2 i (by omega)
          have e : poor pe pu v (i + 1) = poor pe pu v i := by rw [poor, sumN, if_neg (by omega)]; rfl
          refine go_iincN (pc := 29) dX10_poorer_29 rfl (by decide) ?_
          refine go_goto 4 (pc := 32) dX10_poorer_32 (by decide) ?_
          rw [← e]
          exact ih (ns - (i + 1)) (by omega) (i + 1) rfl (by omega)
        · first | rw [nI_leI (by omega) (by omega)] at h18 | rw [zi_leN (by omega)] at h18 | rw [zi_Nle (by omega)] at h18 | rw [zi_le] at h18
          have h5 := hW.2.2 i (by omega)
          have e : poor pe pu v (i + 1) = poor pe pu v i + pe i := by rw [poor, sumN, if_pos (by omega)]; rfl
          refine go_iload_n (i := 2) (pc := 21) dX10_poorer_21 rfl rfl ?_
          refine go_aload_n (i := 0) (pc := 22) dX10_poorer_22 rfl rfl ?_
          refine go_iload_n (i := 3) (pc := 23) dX10_poorer_23 rfl rfl ?_
          refine go_callV ml_X10_52 mt_X10_peopleOf (pc := 24) dX10_poorer_24 (c_X10_peopleOf hW (by omega)) (by first | rfl | (apply zL_cq <;> assumption) | (apply zR_cq <;> assumption)) rfl (by first | rfl | (apply zL_in <;> first | assumption | decide) | (apply zR_in <;> first | assumption | decide)) (by decide) (by decide) rfl rfl (Nat.le_of_ble_eq_true rfl) (fun r σ' hp => ?_)
          obtain ⟨rfl, hσ⟩ := hp
          rw [hσ]
          clear hσ σ'
          dsimp only [zRet]
          first | with_reducible refine go_iaddN (pc := 27) dX10_poorer_27 ?_ | refine go_iadd (pc := 27) dX10_poorer_27 ?_
          refine go_istore_n (i := 2) (pc := 28) dX10_poorer_28 rfl (by decide) ?_
          refine go_iincN (pc := 29) dX10_poorer_29 rfl (by decide) ?_
          refine go_goto 4 (pc := 32) dX10_poorer_32 (by decide) ?_
          rw [← e]
          exact ih (ns - (i + 1)) (by omega) (i + 1) rfl (by omega)
  refine go_iconst (nI 0) (pc := 0) dX10_poorer_0 (by decide) ?_
  refine go_istore_n (i := 2) (pc := 1) dX10_poorer_1 rfl (by decide) ?_
  refine go_iconst (nI 0) (pc := 2) dX10_poorer_2 (by decide) ?_
  refine go_istore_n (i := 3) (pc := 3) dX10_poorer_3 rfl (by decide) ?_
  exact loop 0 (by omega)

theorem c_X10_poorerSorts {E : zE} {σ : zT} {ns : Nat} {pe pu : Nat → Nat} {v : Nat} (hW : TownIs σ ns pe pu) (hv : v < 2 ^ 31) : CalM E 2 yX10_poorerSorts cX10_poorerSorts 4 (some .int) [.ref (zA E 4 0), .int (nI v)] σ (fun r σ' => r = some (.int (nI (poorB pu v ns))) ∧ σ' = σ) := by
  refine cal_of_go (own := RX10) rfl (by decide +kernel) (Nat.le_of_ble_eq_true rfl) ?_
  have hn := hW.1
  have loop : ∀ i : Nat, i ≤ ns → GoM E 2 RX10 cX10_poorerSorts 4 (some .int) (fun r σ' => r = some (.int (nI (poorB pu v ns))) ∧ σ' = σ) σ 4 [(0, .ref (zA E 4 0)), (1, .int (nI v)), (2, .int (nI (poorB pu v i))), (3, .int (nI i))] [] := by
    intro i
    induction hj : ns - i using Nat.strongRecOn generalizing i with
    | ind j ih =>
      intro hi
      refine go_iload_n (i := 3) (pc := 4) dX10_poorerSorts_4 rfl rfl ?_
      refine go_aload_n (i := 0) (pc := 5) dX10_poorerSorts_5 rfl rfl ?_
      refine go_geti fl_X10_30 (pc := 6) dX10_poorerSorts_6 (by first | rfl | (apply zL_fi <;> first | assumption | decide) | (apply zR_fi <;> first | assumption | decide)) ?_
      rw [hW.2.1]
      refine go_icmp_ge 33 (pc := 9) dX10_poorerSorts_9 (by decide) (fun h9 => ?_) (fun h9 => ?_)
      · first | rw [nI_leI (by omega) (by omega)] at h9 | rw [zi_leN (by omega)] at h9 | rw [zi_Nle (by omega)] at h9 | rw [zi_le] at h9
        have e : i = ns := by omega
        subst e
        refine go_iload_n (i := 2) (pc := 33) dX10_poorerSorts_33 rfl rfl ?_
        refine go_ireturn (pc := 34) dX10_poorerSorts_34 rfl ?_
        exact ⟨rfl, rfl⟩
      · first | rw [nI_leI (by omega) (by omega)] at h9 | rw [zi_leN (by omega)] at h9 | rw [zi_Nle (by omega)] at h9 | rw [zi_le] at h9
        refine go_aload_n (i := 0) (pc := 12) dX10_poorerSorts_12 rfl rfl ?_
        refine go_iload_n (i := 3) (pc := 13) dX10_poorerSorts_13 rfl rfl ?_
        refine go_callV ml_X10_55 mt_X10_purseOf (pc := 14) dX10_poorerSorts_14 (c_X10_purseOf hW (by omega)) (by first | rfl | (apply zL_cq <;> assumption) | (apply zR_cq <;> assumption)) rfl (by first | rfl | (apply zL_in <;> first | assumption | decide) | (apply zR_in <;> first | assumption | decide)) (by decide) (by decide) rfl rfl (Nat.le_of_ble_eq_true rfl) (fun r σ' hp => ?_)
        obtain ⟨rfl, hσ⟩ := hp
        rw [hσ]
        clear hσ σ'
        dsimp only [zRet]
        refine go_iload_n (i := 1) (pc := 17) dX10_poorerSorts_17 rfl rfl ?_
        have h4 := (hW.2.2 i (by omega)).2.2.2.2
        refine go_icmp_ge 27 (pc := 18) dX10_poorerSorts_18 (by decide) (fun h18 => ?_) (fun h18 => ?_)
        · first | rw [nI_leI (by omega) (by omega)] at h18 | rw [zi_leN (by omega)] at h18 | rw [zi_Nle (by omega)] at h18 | rw [zi_le] at h18
          have e : poorB pu v (i + 1) = poorB pu v i := by rw [poorB, sumN, if_neg (by omega)]; rfl
          refine go_iincN (pc := 27) dX10_poorerSorts_27 rfl (by decide) ?_
          refine go_goto 4 (pc := 30) dX10_poorerSorts_30 (by decide) ?_
          first | rw [← e] | (unfold poorB at e ⊢; rw [← e])
          exact ih (ns - (i + 1)) (by omega) (i + 1) rfl (by omega)
        · first | rw [nI_leI (by omega) (by omega)] at h18 | rw [zi_leN (by omega)] at h18 | rw [zi_Nle (by omega)] at h18 | rw [zi_le] at h18
          have e : poorB pu v (i + 1) = poorB pu v i + 2 ^ i := by rw [poorB, sumN, if_pos (by omega)]; rfl
          refine go_iload_n (i := 2) (pc := 21) dX10_poorerSorts_21 rfl rfl ?_
          refine go_iconst (nI 1) (pc := 22) dX10_poorerSorts_22 (by decide) ?_
          refine go_iload_n (i := 3) (pc := 23) dX10_poorerSorts_23 rfl rfl ?_
          refine go_ishl (pc := 24) dX10_poorerSorts_24 ?_
          refine go_ior (pc := 25) dX10_poorerSorts_25 ?_
          rw [zor2 (a := poorB pu v i) (bits_lt i) (by omega)]
          refine go_istore_n (i := 2) (pc := 26) dX10_poorerSorts_26 rfl (by decide) ?_
          refine go_iincN (pc := 27) dX10_poorerSorts_27 rfl (by decide) ?_
          refine go_goto 4 (pc := 30) dX10_poorerSorts_30 (by decide) ?_
          first | rw [← e] | (unfold poorB at e ⊢; rw [← e])
          exact ih (ns - (i + 1)) (by omega) (i + 1) rfl (by omega)
  refine go_iconst (nI 0) (pc := 0) dX10_poorerSorts_0 (by decide) ?_
  refine go_istore_n (i := 2) (pc := 1) dX10_poorerSorts_1 rfl (by decide) ?_
  refine go_iconst (nI 0) (pc := 2) dX10_poorerSorts_2 (by decide) ?_
  refine go_istore_n (i := 3) (pc := 3) dX10_poorerSorts_3 rfl (by decide) ?_
  exact loop 0 (by omega)

