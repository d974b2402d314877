/-! what a price brings in, who goes without, thorns, walls, which it was -/
theorem maxSub {a b : Nat} (ha : a < 2 ^ 30) (hb : b < 2 ^ 30) : (if (nI 0).toInt < (nI a - nI b).toInt then nI a - nI b else nI 0) = nI (a - b) := by
  have e : (nI a - nI b).toInt = (a : Int) - b := pk_sub_toInt ha hb
  rw [e, nI_toInt (by decide)]
  split
  · rw [pk_sub (by omega)]
  · rw [show a - b = 0 by omega]
theorem sumN_mono {n : Nat} {g h : Nat → Nat} (e : ∀ i, i < n → g i ≤ h i) : sumN n g ≤ sumN n h := by
  induction n with
  | zero => exact Nat.le_refl _
  | succ n ih =>
    have := e n (by omega)
    have := ih (fun i hi => e i (by omega))
    rw [sumN, sumN]
    omega
theorem poor_le (pe pu : Nat → Nat) (v n : Nat) : poor pe pu v n ≤ sumN n pe := sumN_mono (fun i _ => by split <;> omega)
def taken (V : zV) (tw : Nat × (Nat → Nat) × (Nat → Nat)) (ρ : Nat → Nat) (v : Nat) : Nat := (v - ρ 25) * (sumN tw.1 tw.2.1 - poor tw.2.1 tw.2.2 v tw.1 - (crsA V 0 (va_up ρ 26 v)).2.1)
def better (e : Option Nat) (t : Nat) : Bool := match e with | none => true | some x => decide (x < t)
theorem gM_le {e : Option Nat} {t : Nat} (ht : t < 2 ^ 31) (he : ∀ x, e = some x → x < 2 ^ 31) : nI t ≤ gM e ↔ better e t = false := by
  cases e with
  | none => rw [gM, zi_le, nI_toInt ht, zm1, better]; constructor <;> intro q <;> first | omega | cases q
  | some x => have := he x rfl; rw [gM, nI_leI ht this, better]; simp
def taxL (f : Nat → Nat) : Nat → Nat × Option Nat
  | 0 => (0, none)
  | i + 1 => if better (taxL f i).2 (f i) then (i, some (f i)) else taxL f i
theorem taxL_lt (f : Nat → Nat) (i : Nat) : (taxL f i).1 ≤ i := by
  induction i with
  | zero => exact Nat.le_refl _
  | succ i ih => unfold taxL; split <;> (first | omega | (dsimp only; omega))
theorem taxL_b {f : Nat → Nat} {B : Nat} {i : Nat} (hf : ∀ j, j < i → f j ≤ B) : ∀ x, (taxL f i).2 = some x → x ≤ B := by
  induction i with
  | zero => intro x h; cases h
  | succ i ih =>
    intro x h
    unfold taxL at h
    split at h
    · cases h; exact hf i (by omega)
    · exact ih (fun j hj => hf j (by omega)) x h
def wout (pe pu : Nat → Nat) (n h : Nat) : Nat → Nat
  | 0 => 0
  | p + 1 => if h < poor pe pu (p + 1) n then wout pe pu n h p else p + 1
theorem wout_le (pe pu : Nat → Nat) (n h p : Nat) : wout pe pu n h p ≤ p := by
  induction p with
  | zero => exact Nat.le_refl _
  | succ p ih => unfold wout; split <;> omega
def thr (V : zV) (ρ : Nat → Nat) (n : Nat) : Nat → Option (Nat × Nat)
  | 0 => none
  | m + 1 => if (ρ 24).testBit m then thr V ρ n m else match thr V ρ n m with
    | none => some (m, (wks V (va_up ρ m 9) n).2.2.1)
    | some (b, x) => if (wks V (va_up ρ m 9) n).2.2.1 < x then some (m, (wks V (va_up ρ m 9) n).2.2.1) else some (b, x)
def eF (e : Option (Nat × Nat)) : Int32 := match e with | none => nI 0 | some q => nI q.2
def drw (V : zV) (ρ : Nat → Nat) (m : Nat) : Nat → Bool
  | 0 => false
  | c + 1 => drw V ρ m c || (decide (vK V c ≤ 2) && match dng V ρ c m with | none => false | some d => decide ((d : Int) < gain V ρ c))
theorem drw_mono {V : zV} {ρ : Nat → Nat} {m c : Nat} (h : drw V ρ m c = true) : ∀ k, drw V ρ m (c + k) = true := by
  intro k
  induction k with
  | zero => exact h
  | succ k ih => rw [← Nat.add_assoc, drw, ih]; rfl
def wal (V : zV) (ρ : Nat → Nat) (n : Nat) : Nat := sumN n (fun m => if drw V ρ m (vC V) then 2 ^ m else 0)
def fitB (V : zV) (ρ : Nat → Nat) (ru : Nat × (Nat → Nat) × (Nat → Nat)) (n : Nat) : Nat := sumN n (fun c => if fitA ru.2.1 ru.2.2 (vK V c) (vL V c) (gos V ρ c).isSome ru.1 then 2 ^ c else 0)
theorem zandN {a b : Nat} : nI a &&& nI b = nI (a &&& b) := by
  apply Int32.toBitVec_inj.mp
  show BitVec.ofNat 32 a &&& BitVec.ofNat 32 b = BitVec.ofNat 32 (a &&& b)
  exact (BitVec.ofNat_and ..).symm
theorem bcn_and (a b : Nat) : bcn (a &&& b) ≤ bcn a := sumN_mono (fun i _ => by rw [Nat.testBit_and]; cases a.testBit i <;> cases b.testBit i <;> simp)
def askF (ld : Nat → Nat) (b nc v : Nat) : Nat := max (bcn (b &&& heavyB ld v nc)) (bcn b - bcn (b &&& heavyB ld v nc))
def askL (ld : Nat → Nat) (b nc : Nat) : Nat → Nat × Nat
  | 0 => (1, bcn b)
  | j + 1 => if askF ld b nc (j + 1) < (askL ld b nc j).2 then (j + 1, askF ld b nc (j + 1)) else askL ld b nc j
theorem askF_le (ld : Nat → Nat) (b nc v : Nat) : askF ld b nc v ≤ 12 := by
  have h1 := bcn_le (b &&& heavyB ld v nc)
  have h2 := bcn_le b
  unfold askF
  omega
theorem askL_b (ld : Nat → Nat) (b nc j : Nat) : (askL ld b nc j).1 ≤ j + 1 ∧ (askL ld b nc j).2 ≤ 12 := by
  induction j with
  | zero => exact ⟨Nat.le_refl _, bcn_le b⟩
  | succ j ih =>
    have := askF_le ld b nc (j + 1)
    unfold askL
    split <;> (first | omega | (dsimp only; omega))

theorem c_X11_takenAt {E : zE} {σ : zT} {tx : Nat × (Nat → Nat)} {bd : Nat × (Nat → Nat) × (Nat → Nat)} {sk : Nat × (Nat → Nat)} {tw : Nat × (Nat → Nat) × (Nat → Nat)} {xs : List Nat} {ld : Nat × (Nat → Nat)} {pa sh : Nat × (Nat → Nat → Nat)} {ru : Nat × (Nat → Nat) × (Nat → Nat)} {to : Nat × (Nat → Int64)} {v : Nat} (hC : ClsIs σ tx bd sk tw xs ld pa sh ru to) (hv : v ≤ 99) : CalM E 6 yX11_takenAt cX11_takenAt 4 (some .int) [.ref (zA E 0 0), .int (nI v)] σ (fun r σ' => r = some (.int (nI (taken (vOf bd sk xs ld.1) tw ld.2 v))) ∧ ClsIs σ' tx bd sk tw xs ld pa sh ru to ∧ Fr33 σ σ') := by
  refine cal_of_go (own := RX11) rfl (by decide +kernel) (Nat.le_of_ble_eq_true rfl) ?_
  have hL := hC.2.2.2.2.2.1
  have hn := hL.b
  have hok := hL.1
  have hB0 := hC.2.2.1
  have hnc := hB0.1
  have h25 := hok.2.2.2.2.1
  have hT := hC.2.2.2.2.1
  have hpo := poor_le tw.2.1 tw.2.2 v tw.1
  have hpe : sumN tw.1 tw.2.1 ≤ tw.1 * 99 := sumN_le (fun i hi => (hT.2.2 i hi).2.2.2.1)
  have ht8 := hT.1
  refine go_iconst (nI 0) (pc := 0) dX11_takenAt_0 (by decide) ?_
  refine go_iload_n (i := 1) (pc := 1) dX11_takenAt_1 rfl rfl ?_
  refine go_aload_n (i := 0) (pc := 2) dX11_takenAt_2 rfl rfl ?_
  refine go_getr2 fl_X11_49 (pc := 3) dX11_takenAt_3 (by first | rfl | (apply zL_ci <;> assumption) | (apply zR_ci <;> assumption)) (by first | rfl | (apply zL_in <;> first | assumption | decide) | (apply zR_in <;> first | assumption | decide)) (by first | rfl | (apply zL_fr0 <;> assumption) | (apply zL_fr1 <;> assumption) | (apply zR_fr0 <;> assumption) | (apply zR_fr1 <;> assumption) | (apply zR_fr2 <;> assumption) | (apply zR_fr3 <;> assumption)) ?_
  refine go_callV ml_X11_247 mt_X2_cheap (pc := 6) dX11_takenAt_6 (c_X2_cheap rfl hL) (by first | rfl | (apply zL_cq <;> assumption) | (apply zR_cq <;> assumption)) rfl (by first | rfl | (apply zL_in <;> first | assumption | decide) | (apply zR_in <;> first | assumption | decide)) (by decide) (by decide) rfl rfl (Nat.le_of_ble_eq_true rfl) (fun r σ' hp => ?_)
  obtain ⟨rfl, hσ⟩ := hp
  rw [hσ]
  clear hσ σ'
  dsimp only [zRet]
  refine go_isub (pc := 9) dX11_takenAt_9 ?_
  refine go_callS ml_X11_311 mt_J9_max_7cf53 (pc := 10) dX11_takenAt_10 (c_J9_max_7cf53) (by decide) (by decide) rfl rfl (Nat.le_of_ble_eq_true rfl) (fun r σ' hp => ?_)
  obtain ⟨rfl, hσ⟩ := hp
  rw [hσ]
  clear hσ σ'
  dsimp only [zRet]
  rw [maxSub (by omega) (by omega)]
  refine go_istore_n (i := 2) (pc := 13) dX11_takenAt_13 rfl (by decide) ?_
  refine go_iload_n (i := 2) (pc := 14) dX11_takenAt_14 rfl rfl ?_
  refine go_if_ne 20 (pc := 15) dX11_takenAt_15 (by decide) (fun h15 => ?_) (fun h15 => ?_)
  · first | rw [zb_0d] at h15 | rw [zn_eq0 (by omega)] at h15 | rw [zi_eq0] at h15
    refine go_aload_n (i := 0) (pc := 20) dX11_takenAt_20 rfl rfl ?_
    refine go_getr2 fl_X11_53 (pc := 21) dX11_takenAt_21 (by first | rfl | (apply zL_ci <;> assumption) | (apply zR_ci <;> assumption)) (by first | rfl | (apply zL_in <;> first | assumption | decide) | (apply zR_in <;> first | assumption | decide)) (by first | rfl | (apply zL_fr0 <;> assumption) | (apply zL_fr1 <;> assumption) | (apply zR_fr0 <;> assumption) | (apply zR_fr1 <;> assumption) | (apply zR_fr2 <;> assumption) | (apply zR_fr3 <;> assumption)) ?_
    refine go_aload_n (i := 0) (pc := 24) dX11_takenAt_24 rfl rfl ?_
    refine go_getr2 fl_X11_49 (pc := 25) dX11_takenAt_25 (by first | rfl | (apply zL_ci <;> assumption) | (apply zR_ci <;> assumption)) (by first | rfl | (apply zL_in <;> first | assumption | decide) | (apply zR_in <;> first | assumption | decide)) (by first | rfl | (apply zL_fr0 <;> assumption) | (apply zL_fr1 <;> assumption) | (apply zR_fr0 <;> assumption) | (apply zR_fr1 <;> assumption) | (apply zR_fr2 <;> assumption) | (apply zR_fr3 <;> assumption)) ?_
    refine go_callV ml_X11_198 mt_X2_copyFrom (pc := 28) dX11_takenAt_28 (c_X2_copyFrom rfl rfl hL) (by first | rfl | (apply zL_cq <;> assumption) | (apply zR_cq <;> assumption)) rfl (by first | rfl | (apply zL_in <;> first | assumption | decide) | (apply zR_in <;> first | assumption | decide)) (by decide) (by decide) rfl rfl (Nat.le_of_ble_eq_true rfl) (fun r σ' hp => ?_)
    obtain ⟨rfl, hb, hf⟩ := hp
    dsimp only [zRet]
    have hC1 := hC.fr hf (by simp)
    refine go_aload_n (i := 0) (pc := 31) dX11_takenAt_31 rfl rfl ?_
    refine go_getr2 fl_X11_53 (pc := 32) dX11_takenAt_32 (by first | rfl | (apply zL_ci <;> assumption) | (apply zR_ci <;> assumption)) (by first | rfl | (apply zL_in <;> first | assumption | decide) | (apply zR_in <;> first | assumption | decide)) (by first | rfl | (apply zL_fr0 <;> assumption) | (apply zL_fr1 <;> assumption) | (apply zR_fr0 <;> assumption) | (apply zR_fr1 <;> assumption) | (apply zR_fr2 <;> assumption) | (apply zR_fr3 <;> assumption)) ?_
    refine go_iload_n (i := 1) (pc := 35) dX11_takenAt_35 rfl rfl ?_
    refine go_callV ml_X11_257 mt_X2_setDear (pc := 36) dX11_takenAt_36 (c_X2_setDear rfl hb hv) (by first | rfl | (apply zL_cq <;> assumption) | (apply zR_cq <;> assumption)) rfl (by first | rfl | (apply zL_in <;> first | assumption | decide) | (apply zR_in <;> first | assumption | decide)) (by decide) (by decide) rfl rfl (Nat.le_of_ble_eq_true rfl) (fun r σ' hp => ?_)
    obtain ⟨rfl, hb2, hf2⟩ := hp
    dsimp only [zRet]
    have hC2 := hC1.fr hf2 (by simp)
    obtain ⟨kr, hkr, hz, hR14, hW⟩ := hC2.w (kl := 7) rfl hb2
    refine go_aload_n (i := 0) (pc := 39) dX11_takenAt_39 rfl rfl ?_
    refine go_getr2 fl_X11_42 (pc := 40) dX11_takenAt_40 (by first | rfl | (apply zL_ci <;> assumption) | (apply zR_ci <;> assumption)) (by first | rfl | (apply zL_in <;> first | assumption | decide) | (apply zR_in <;> first | assumption | decide)) (by first | rfl | (apply zL_fr0 <;> assumption) | (apply zL_fr1 <;> assumption) | (apply zR_fr0 <;> assumption) | (apply zR_fr1 <;> assumption) | (apply zR_fr2 <;> assumption) | (apply zR_fr3 <;> assumption)) ?_
    refine go_aload_n (i := 0) (pc := 43) dX11_takenAt_43 rfl rfl ?_
    refine go_getR fl_X11_97 (pc := 44) dX11_takenAt_44 rfl ?_
    rw [hR14]
    refine go_aload_n (i := 0) (pc := 47) dX11_takenAt_47 rfl rfl ?_
    refine go_getr2 fl_X11_53 (pc := 48) dX11_takenAt_48 (by first | rfl | (apply zL_ci <;> assumption) | (apply zR_ci <;> assumption)) (by first | rfl | (apply zL_in <;> first | assumption | decide) | (apply zR_in <;> first | assumption | decide)) (by first | rfl | (apply zL_fr0 <;> assumption) | (apply zL_fr1 <;> assumption) | (apply zR_fr0 <;> assumption) | (apply zR_fr1 <;> assumption) | (apply zR_fr2 <;> assumption) | (apply zR_fr3 <;> assumption)) ?_
    refine go_iconst (nI 0) (pc := 51) dX11_takenAt_51 (by decide) ?_
    refine go_callV ml_X11_288 mt_X1_cross (pc := 52) dX11_takenAt_52 (c_X1_cross hW (by decide)) (by first | rfl | (apply zL_cq <;> assumption) | (apply zR_cq <;> assumption)) rfl (by first | rfl | (apply zL_in <;> first | assumption | decide) | (apply zR_in <;> first | assumption | decide)) (by decide) (by decide) rfl rfl (Nat.le_of_ble_eq_true rfl) (fun r σ' hp => ?_)
    obtain ⟨rfl, hE4, hom, hW2, hf3, hE⟩ := hp
    dsimp only [zRet]
    have hC3 := hC2.try hz hR14 (Or.inl rfl) hf3 rfl hW2
    obtain ⟨c1, c2, c3, c4, c5⟩ := crs_ok (st := 0) hW.vok hb2.1 bd.1 (Nat.le_refl _)
    have c3 : (crsA (vOf bd sk xs ld.1) 0 (va_up ld.2 26 v)).2.1 ≤ 9 * bd.1 := c3
    have hT3 := hC3.2.2.2.2.1
    refine go_istore_n (i := 3) (pc := 55) dX11_takenAt_55 rfl (by decide) ?_
    refine go_iload_n (i := 2) (pc := 56) dX11_takenAt_56 rfl rfl ?_
    refine go_iconst (nI 0) (pc := 57) dX11_takenAt_57 (by decide) ?_
    refine go_aload_n (i := 0) (pc := 58) dX11_takenAt_58 rfl rfl ?_
    refine go_getr2 fl_X11_33 (pc := 59) dX11_takenAt_59 (by first | rfl | (apply zL_ci <;> assumption) | (apply zR_ci <;> assumption)) (by first | rfl | (apply zL_in <;> first | assumption | decide) | (apply zR_in <;> first | assumption | decide)) (by first | rfl | (apply zL_fr0 <;> assumption) | (apply zL_fr1 <;> assumption) | (apply zR_fr0 <;> assumption) | (apply zR_fr1 <;> assumption) | (apply zR_fr2 <;> assumption) | (apply zR_fr3 <;> assumption)) ?_
    refine go_callV ml_X11_314 mt_X10_everyone (pc := 62) dX11_takenAt_62 (c_X10_everyone hT3) (by first | rfl | (apply zL_cq <;> assumption) | (apply zR_cq <;> assumption)) rfl (by first | rfl | (apply zL_in <;> first | assumption | decide) | (apply zR_in <;> first | assumption | decide)) (by decide) (by decide) rfl rfl (Nat.le_of_ble_eq_true rfl) (fun r σ' hp => ?_)
    obtain ⟨rfl, hσ⟩ := hp
    rw [hσ]
    clear hσ σ'
    dsimp only [zRet]
    refine go_aload_n (i := 0) (pc := 65) dX11_takenAt_65 rfl rfl ?_
    refine go_getr2 fl_X11_33 (pc := 66) dX11_takenAt_66 (by first | rfl | (apply zL_ci <;> assumption) | (apply zR_ci <;> assumption)) (by first | rfl | (apply zL_in <;> first | assumption | decide) | (apply zR_in <;> first | assumption | decide)) (by first | rfl | (apply zL_fr0 <;> assumption) | (apply zL_fr1 <;> assumption) | (apply zR_fr0 <;> assumption) | (apply zR_fr1 <;> assumption) | (apply zR_fr2 <;> assumption) | (apply zR_fr3 <;> assumption)) ?_
    refine go_iload_n (i := 1) (pc := 69) dX11_takenAt_69 rfl rfl ?_
    refine go_callV ml_X11_308 mt_X10_poorer (pc := 70) dX11_takenAt_70 (c_X10_poorer hT3 (by omega)) (by first | rfl | (apply zL_cq <;> assumption) | (apply zR_cq <;> assumption)) rfl (by first | rfl | (apply zL_in <;> first | assumption | decide) | (apply zR_in <;> first | assumption | decide)) (by decide) (by decide) rfl rfl (Nat.le_of_ble_eq_true rfl) (fun r σ' hp => ?_)
    obtain ⟨rfl, hσ⟩ := hp
    rw [hσ]
    clear hσ σ'
    dsimp only [zRet]
    first | with_reducible refine go_isubN (pc := 73) dX11_takenAt_73 (by omega) ?_ | refine go_isub (pc := 73) dX11_takenAt_73 ?_
    refine go_iload_n (i := 3) (pc := 74) dX11_takenAt_74 rfl rfl ?_
    refine go_isub (pc := 75) dX11_takenAt_75 ?_
    refine go_callS ml_X11_311 mt_J9_max_7cf53 (pc := 76) dX11_takenAt_76 (c_J9_max_7cf53) (by decide) (by decide) rfl rfl (Nat.le_of_ble_eq_true rfl) (fun r σ' hp => ?_)
    obtain ⟨rfl, hσ⟩ := hp
    rw [hσ]
    clear hσ σ'
    dsimp only [zRet]
    rw [maxSub (by omega) (by omega)]
    first | with_reducible refine go_imulN (pc := 79) dX11_takenAt_79 ?_ | refine go_imul (pc := 79) dX11_takenAt_79 ?_
    refine go_ireturn (pc := 80) dX11_takenAt_80 rfl ?_
    exact ⟨rfl, hC3, ((Fr33.of hf (by simp)).tr (Fr33.of hf2 (by simp))).tr (Fr33.of hf3 (by simp; omega))⟩
  · first | rw [zb_0d] at h15 | rw [zn_eq0 (by omega)] at h15 | rw [zi_eq0] at h15
    refine go_iconst (nI 0) (pc := 18) dX11_takenAt_18 (by decide) ?_
    refine go_ireturn (pc := 19) dX11_takenAt_19 rfl ?_
    refine ⟨?_, hC, Fr33.rf⟩
    unfold taken
    rw [show v - ld.2 25 = 0 by omega, Nat.zero_mul]

theorem c_X11_tax {E : zE} {σ : zT} {tx : Nat × (Nat → Nat)} {bd : Nat × (Nat → Nat) × (Nat → Nat)} {sk : Nat × (Nat → Nat)} {tw : Nat × (Nat → Nat) × (Nat → Nat)} {xs : List Nat} {ld : Nat × (Nat → Nat)} {pa sh : Nat × (Nat → Nat → Nat)} {ru : Nat × (Nat → Nat) × (Nat → Nat)} {to : Nat × (Nat → Int64)} (hC : ClsIs σ tx bd sk tw xs ld pa sh ru to) : CalM E 7 yX11_tax cX11_tax 5 (some .int) [.ref (zA E 0 0)] σ (fun r σ' => r = some (.int (nI (taxL (taken (vOf bd sk xs ld.1) tw ld.2) 100).1)) ∧ ClsIs σ' tx bd sk tw xs ld pa sh ru (2, ln2 (gM (taxL (taken (vOf bd sk xs ld.1) tw ld.2) 100).2).toInt64 (lN (poor tw.2.1 tw.2.2 (taxL (taken (vOf bd sk xs ld.1) tw ld.2) 100).1 tw.1))) ∧ Fr33 σ σ') := by
  refine cal_of_go (own := RX11) rfl (by decide +kernel) (Nat.le_of_ble_eq_true rfl) ?_
  have hL := hC.2.2.2.2.2.1
  have hn := hL.b
  have hok := hL.1
  have hB0 := hC.2.2.1
  have hnc := hB0.1
  have hT := hC.2.2.2.2.1
  have hpe : sumN tw.1 tw.2.1 ≤ tw.1 * 99 := sumN_le (fun i hi => (hT.2.2 i hi).2.2.2.1)
  have ht8 := hT.1
  have htk : ∀ j, j < 100 → taken (vOf bd sk xs ld.1) tw ld.2 j ≤ 99 * 792 := fun j hj => Nat.mul_le_mul (by omega) (by omega)
  have loop : ∀ (i : Nat) (τ : zT), i ≤ 100 → (ClsIs τ tx bd sk tw xs ld pa sh ru to) → (Fr33 σ τ) → GoM E 7 RX11 cX11_tax 5 (some .int) (fun r σ' => r = some (.int (nI (taxL (taken (vOf bd sk xs ld.1) tw ld.2) 100).1)) ∧ ClsIs σ' tx bd sk tw xs ld pa sh ru (2, ln2 (gM (taxL (taken (vOf bd sk xs ld.1) tw ld.2) 100).2).toInt64 (lN (poor tw.2.1 tw.2.2 (taxL (taken (vOf bd sk xs ld.1) tw ld.2) 100).1 tw.1))) ∧ Fr33 σ σ') τ 6 [(0, .ref (zA E 0 0)), (1, .int (nI (taxL (taken (vOf bd sk xs ld.1) tw ld.2) i).1)), (2, .int (gM (taxL (taken (vOf bd sk xs ld.1) tw ld.2) i).2)), (3, .int (nI i))] [] := by
    intro i
    induction hj : 100 - i using Nat.strongRecOn generalizing i with
    | ind z ih =>
      intro τ hi hCt hF
      have hb2 := taxL_b (i := i) (fun j hj => htk j (by omega))
      have hb1 := taxL_lt (taken (vOf bd sk xs ld.1) tw ld.2) i
      refine go_iload_n (i := 3) (pc := 6) dX11_tax_6 rfl rfl ?_
      refine go_bipush (nI 99) (pc := 7) dX11_tax_7 (by decide) ?_
      refine go_icmp_gt 36 (pc := 9) dX11_tax_9 (by decide) (fun h9 => ?_) (fun h9 => ?_)
      · first | rw [nI_ltI (by omega) (by omega)] at h9 | rw [zi_ltN (by omega)] at h9 | rw [zi_Nlt (by omega)] at h9 | rw [zi_lt] at h9
        have ei : i = 100 := by omega
        subst ei
        refine go_aload_n (i := 0) (pc := 36) dX11_tax_36 rfl rfl ?_
        refine go_getr2 fl_X11_83 (pc := 37) dX11_tax_37 (by first | rfl | (apply zL_ci <;> assumption) | (apply zR_ci <;> assumption)) (by first | rfl | (apply zL_in <;> first | assumption | decide) | (apply zR_in <;> first | assumption | decide)) (by first | rfl | (apply zL_fr0 <;> assumption) | (apply zL_fr1 <;> assumption) | (apply zR_fr0 <;> assumption) | (apply zR_fr1 <;> assumption) | (apply zR_fr2 <;> assumption) | (apply zR_fr3 <;> assumption)) ?_
        refine go_iload_n (i := 2) (pc := 40) dX11_tax_40 rfl rfl ?_
        refine go_i2l (pc := 41) dX11_tax_41 ?_
        refine go_aload_n (i := 0) (pc := 42) dX11_tax_42 rfl rfl ?_
        refine go_getr2 fl_X11_33 (pc := 43) dX11_tax_43 (by first | rfl | (apply zL_ci <;> assumption) | (apply zR_ci <;> assumption)) (by first | rfl | (apply zL_in <;> first | assumption | decide) | (apply zR_in <;> first | assumption | decide)) (by first | rfl | (apply zL_fr0 <;> assumption) | (apply zL_fr1 <;> assumption) | (apply zR_fr0 <;> assumption) | (apply zR_fr1 <;> assumption) | (apply zR_fr2 <;> assumption) | (apply zR_fr3 <;> assumption)) ?_
        refine go_iload_n (i := 1) (pc := 46) dX11_tax_46 rfl rfl ?_
        refine go_callV ml_X11_308 mt_X10_poorer (pc := 47) dX11_tax_47 (c_X10_poorer hCt.2.2.2.2.1 (by omega)) (by first | rfl | (apply zL_cq <;> assumption) | (apply zR_cq <;> assumption)) rfl (by first | rfl | (apply zL_in <;> first | assumption | decide) | (apply zR_in <;> first | assumption | decide)) (by decide) (by decide) rfl rfl (Nat.le_of_ble_eq_true rfl) (fun r σ' hp => ?_)
        obtain ⟨rfl, hσ⟩ := hp
        rw [hσ]
        clear hσ σ'
        dsimp only [zRet]
        refine go_i2l (pc := 50) dX11_tax_50 ?_
        have hp1 := poor_le tw.2.1 tw.2.2 (taxL (taken (vOf bd sk xs ld.1) tw ld.2) 100).1 tw.1
        rw [nI_l (by omega)]
        refine go_callV ml_X11_223 mt_X9_two (pc := 51) dX11_tax_51 (c_X9_two) (by first | rfl | (apply zL_cq <;> assumption) | (apply zR_cq <;> assumption)) rfl (by first | rfl | (apply zL_in <;> first | assumption | decide) | (apply zR_in <;> first | assumption | decide)) (by decide) (by decide) rfl rfl (Nat.le_of_ble_eq_true rfl) (fun r σ' hp => ?_)
        obtain ⟨rfl, hT4, hf4⟩ := hp
        dsimp only [zRet]
        refine go_iload_n (i := 1) (pc := 54) dX11_tax_54 rfl rfl ?_
        refine go_ireturn (pc := 55) dX11_tax_55 rfl ?_
        exact ⟨rfl, hCt.setTo (to' := (2, _)) hf4 hT4, hF.tr (Fr33.of hf4 (by simp))⟩
      · first | rw [nI_ltI (by omega) (by omega)] at h9 | rw [zi_ltN (by omega)] at h9 | rw [zi_Nlt (by omega)] at h9 | rw [zi_lt] at h9
        refine go_aload_n (i := 0) (pc := 12) dX11_tax_12 rfl rfl ?_
        refine go_iload_n (i := 3) (pc := 13) dX11_tax_13 rfl rfl ?_
        refine go_callV ml_X11_305 mt_X11_takenAt (pc := 14) dX11_tax_14 (c_X11_takenAt hCt (by omega)) (by first | rfl | (apply zL_cq <;> assumption) | (apply zR_cq <;> assumption)) rfl (by first | rfl | (apply zL_in <;> first | assumption | decide) | (apply zR_in <;> first | assumption | decide)) (by decide) (by decide) rfl rfl (Nat.le_of_ble_eq_true rfl) (fun r σ' hp => ?_)
        obtain ⟨rfl, hC2, hF2⟩ := hp
        dsimp only [zRet]
        have hF3 := hF.tr hF2
        have htk2 := htk i (by omega)
        refine go_istore (pc := 17) dX11_tax_17 (by decide) ?_
        refine go_iload (pc := 19) dX11_tax_19 rfl ?_
        refine go_iload_n (i := 2) (pc := 21) dX11_tax_21 rfl rfl ?_
        refine go_icmp_le 30 (pc := 22) dX11_tax_22 (by decide) (fun h22 => ?_) (fun h22 => ?_)
        · rw [gM_le (by omega) (fun x hx => by have := hb2 x hx; omega)] at h22
          have es : taxL (taken (vOf bd sk xs ld.1) tw ld.2) (i + 1) = taxL (taken (vOf bd sk xs ld.1) tw ld.2) i := by rw [taxL, h22]; rfl
          have e1 := congrArg Prod.fst es
          have e2 := congrArg Prod.snd es
          refine go_iincN (pc := 30) dX11_tax_30 rfl (by decide) ?_
          refine go_goto 6 (pc := 33) dX11_tax_33 (by decide) ?_
          refine go_drop [0, 1, 2, 3] rfl ?_
          have ih2 := ih (100 - (i + 1)) (by omega) (i + 1) rfl _ (by omega) hC2 hF3
          rw [e1] at ih2
          first
            | (rw [e2] at ih2; exact ih2)
            | exact ih2
        · rw [gM_le (by omega) (fun x hx => by have := hb2 x hx; omega)] at h22
          have es : taxL (taken (vOf bd sk xs ld.1) tw ld.2) (i + 1) = (i, some (taken (vOf bd sk xs ld.1) tw ld.2 i)) := by rw [taxL, if_pos (by simpa using h22)]
          have e1 := congrArg Prod.fst es
          have e2 := congrArg Prod.snd es
          have e3 : nI (taken (vOf bd sk xs ld.1) tw ld.2 i) = gM (taxL (taken (vOf bd sk xs ld.1) tw ld.2) (i + 1)).2 := by rw [es]; rfl
          rw [e3]
          refine go_iload (pc := 25) dX11_tax_25 rfl ?_
          refine go_istore_n (i := 2) (pc := 27) dX11_tax_27 rfl (by decide) ?_
          refine go_iload_n (i := 3) (pc := 28) dX11_tax_28 rfl rfl ?_
          refine go_istore_n (i := 1) (pc := 29) dX11_tax_29 rfl (by decide) ?_
          refine go_iincN (pc := 30) dX11_tax_30 rfl (by decide) ?_
          refine go_goto 6 (pc := 33) dX11_tax_33 (by decide) ?_
          refine go_drop [0, 1, 2, 3] rfl ?_
          have ih2 := ih (100 - (i + 1)) (by omega) (i + 1) rfl _ (by omega) hC2 hF3
          rw [e1] at ih2
          first
            | (rw [e2] at ih2; exact ih2)
            | exact ih2
  refine go_iconst (nI 0) (pc := 0) dX11_tax_0 (by decide) ?_
  refine go_istore_n (i := 1) (pc := 1) dX11_tax_1 rfl (by decide) ?_
  refine go_iconst (-1) (pc := 2) dX11_tax_2 (by decide) ?_
  refine go_istore_n (i := 2) (pc := 3) dX11_tax_3 rfl (by decide) ?_
  refine go_iconst (nI 0) (pc := 4) dX11_tax_4 (by decide) ?_
  refine go_istore_n (i := 3) (pc := 5) dX11_tax_5 rfl (by decide) ?_
  exact loop 0 _ (by omega) hC Fr33.rf

theorem c_X11_without {E : zE} {σ : zT} {tx : Nat × (Nat → Nat)} {bd : Nat × (Nat → Nat) × (Nat → Nat)} {sk : Nat × (Nat → Nat)} {tw : Nat × (Nat → Nat) × (Nat → Nat)} {xs : List Nat} {ld : Nat × (Nat → Nat)} {pa sh : Nat × (Nat → Nat → Nat)} {ru : Nat × (Nat → Nat) × (Nat → Nat)} {to : Nat × (Nat → Int64)} {v : Int32} (hC : ClsIs σ tx bd sk tw xs ld pa sh ru to) : CalM E 4 yX11_without cX11_without 4 (some .int) [.ref (zA E 0 0), .int v] σ (fun r σ' => r = some (.int (if in0 v 99 then nI (poor tw.2.1 tw.2.2 v.toInt.toNat tw.1) else -1)) ∧ ClsIs σ' tx bd sk tw xs ld pa sh ru (if in0 v 99 then (2, ln2 (lN (poorB tw.2.2 v.toInt.toNat tw.1)) (lN (wout tw.2.1 tw.2.2 tw.1 (poor tw.2.1 tw.2.2 v.toInt.toNat tw.1 / 2) v.toInt.toNat))) else to) ∧ Fr33 σ σ') := by
  refine cal_of_go (own := RX11) rfl (by decide +kernel) (Nat.le_of_ble_eq_true rfl) ?_
  have hL := hC.2.2.2.2.2.1
  have hn := hL.b
  have hok := hL.1
  have hB0 := hC.2.2.1
  have hnc := hB0.1
  have hT := hC.2.2.2.2.1
  have hpe : sumN tw.1 tw.2.1 ≤ tw.1 * 99 := sumN_le (fun i hi => (hT.2.2 i hi).2.2.2.1)
  have ht8 := hT.1
  have loop : ∀ v1 p : Nat, v1 ≤ 99 → p ≤ v1 → wout tw.2.1 tw.2.2 tw.1 (poor tw.2.1 tw.2.2 v1 tw.1 / 2) v1 = wout tw.2.1 tw.2.2 tw.1 (poor tw.2.1 tw.2.2 v1 tw.1 / 2) p → GoM E 4 RX11 cX11_without 4 (some .int) (fun r σ' => r = some (.int (nI (poor tw.2.1 tw.2.2 v1 tw.1))) ∧ ClsIs σ' tx bd sk tw xs ld pa sh ru (2, ln2 (lN (poorB tw.2.2 v1 tw.1)) (lN (wout tw.2.1 tw.2.2 tw.1 (poor tw.2.1 tw.2.2 v1 tw.1 / 2) v1))) ∧ Fr33 σ σ') σ 23 [(0, .ref (zA E 0 0)), (1, .int (nI v1)), (2, .int (nI (poor tw.2.1 tw.2.2 v1 tw.1))), (3, .int (nI p))] [] := by
    intro v1 p hv1
    induction p using Nat.strongRecOn with
    | ind p ih =>
      intro hpv hpq
      refine go_iload_n (i := 3) (pc := 23) dX11_without_23 rfl rfl ?_
      refine go_if_le 47 (pc := 24) dX11_without_24 (by decide) (fun h24 => ?_) (fun h24 => ?_)
      · first | rw [zb_0d] at h24 | rw [zn_le0 (by omega)] at h24 | rw [zi_le0] at h24
        have ep : p = 0 := by omega
        subst ep
        have hp0 := hpq
        rw [wout] at hp0
        refine go_aload_n (i := 0) (pc := 47) dX11_without_47 rfl rfl ?_
        refine go_getr2 fl_X11_83 (pc := 48) dX11_without_48 (by first | rfl | (apply zL_ci <;> assumption) | (apply zR_ci <;> assumption)) (by first | rfl | (apply zL_in <;> first | assumption | decide) | (apply zR_in <;> first | assumption | decide)) (by first | rfl | (apply zL_fr0 <;> assumption) | (apply zL_fr1 <;> assumption) | (apply zR_fr0 <;> assumption) | (apply zR_fr1 <;> assumption) | (apply zR_fr2 <;> assumption) | (apply zR_fr3 <;> assumption)) ?_
        refine go_aload_n (i := 0) (pc := 51) dX11_without_51 rfl rfl ?_
        refine go_getr2 fl_X11_33 (pc := 52) dX11_without_52 (by first | rfl | (apply zL_ci <;> assumption) | (apply zR_ci <;> assumption)) (by first | rfl | (apply zL_in <;> first | assumption | decide) | (apply zR_in <;> first | assumption | decide)) (by first | rfl | (apply zL_fr0 <;> assumption) | (apply zL_fr1 <;> assumption) | (apply zR_fr0 <;> assumption) | (apply zR_fr1 <;> assumption) | (apply zR_fr2 <;> assumption) | (apply zR_fr3 <;> assumption)) ?_
        refine go_iload_n (i := 1) (pc := 55) dX11_without_55 rfl rfl ?_
        refine go_callV ml_X11_317 mt_X10_poorerSorts (pc := 56) dX11_without_56 (c_X10_poorerSorts hT (by omega)) (by first | rfl | (apply zL_cq <;> assumption) | (apply zR_cq <;> assumption)) rfl (by first | rfl | (apply zL_in <;> first | assumption | decide) | (apply zR_in <;> first | assumption | decide)) (by decide) (by decide) rfl rfl (Nat.le_of_ble_eq_true rfl) (fun r σ' hp => ?_)
        obtain ⟨rfl, hσ⟩ := hp
        rw [hσ]
        clear hσ σ'
        dsimp only [zRet]
        refine go_i2l (pc := 59) dX11_without_59 ?_
        have hbl : poorB tw.2.2 v1 tw.1 < 2 ^ tw.1 := bits_lt (b := fun i => tw.2.2 i < v1) tw.1
        have hbl2 : 2 ^ tw.1 ≤ 2 ^ 8 := Nat.pow_le_pow_right (by decide) ht8
        rw [nI_l (by omega)]
        refine go_iload_n (i := 3) (pc := 60) dX11_without_60 rfl rfl ?_
        refine go_i2l (pc := 61) dX11_without_61 ?_
        rw [nI_l (by omega)]
        refine go_callV ml_X11_223 mt_X9_two (pc := 62) dX11_without_62 (c_X9_two) (by first | rfl | (apply zL_cq <;> assumption) | (apply zR_cq <;> assumption)) rfl (by first | rfl | (apply zL_in <;> first | assumption | decide) | (apply zR_in <;> first | assumption | decide)) (by decide) (by decide) rfl rfl (Nat.le_of_ble_eq_true rfl) (fun r σ' hp => ?_)
        obtain ⟨rfl, hT4, hf4⟩ := hp
        dsimp only [zRet]
        refine go_iload_n (i := 2) (pc := 65) dX11_without_65 rfl rfl ?_
        refine go_ireturn (pc := 66) dX11_without_66 rfl ?_
        rw [hp0]
        exact ⟨rfl, hC.setTo (to' := (2, _)) hf4 hT4, Fr33.of hf4 (by simp)⟩
      · first | rw [zb_0d] at h24 | rw [zn_le0 (by omega)] at h24 | rw [zi_le0] at h24
        refine go_aload_n (i := 0) (pc := 27) dX11_without_27 rfl rfl ?_
        refine go_getr2 fl_X11_33 (pc := 28) dX11_without_28 (by first | rfl | (apply zL_ci <;> assumption) | (apply zR_ci <;> assumption)) (by first | rfl | (apply zL_in <;> first | assumption | decide) | (apply zR_in <;> first | assumption | decide)) (by first | rfl | (apply zL_fr0 <;> assumption) | (apply zL_fr1 <;> assumption) | (apply zR_fr0 <;> assumption) | (apply zR_fr1 <;> assumption) | (apply zR_fr2 <;> assumption) | (apply zR_fr3 <;> assumption)) ?_
        refine go_iload_n (i := 3) (pc := 31) dX11_without_31 rfl rfl ?_
        refine go_callV ml_X11_308 mt_X10_poorer (pc := 32) dX11_without_32 (c_X10_poorer hT (by omega)) (by first | rfl | (apply zL_cq <;> assumption) | (apply zR_cq <;> assumption)) rfl (by first | rfl | (apply zL_in <;> first | assumption | decide) | (apply zR_in <;> first | assumption | decide)) (by decide) (by decide) rfl rfl (Nat.le_of_ble_eq_true rfl) (fun r σ' hp => ?_)
        obtain ⟨rfl, hσ⟩ := hp
        rw [hσ]
        clear hσ σ'
        dsimp only [zRet]
        refine go_iload_n (i := 2) (pc := 35) dX11_without_35 rfl rfl ?_
        refine go_iconst (nI 2) (pc := 36) dX11_without_36 (by decide) ?_
        have hp2 := poor_le tw.2.1 tw.2.2 v1 tw.1
        have hp3 := poor_le tw.2.1 tw.2.2 p tw.1
        refine go_idiv (pc := 37) dX11_without_37 (by decide) ?_
        rw [pk_div (by omega) (by decide) (by decide)]
        refine go_icmp_le 47 (pc := 38) dX11_without_38 (by decide) (fun h38 => ?_) (fun h38 => ?_)
        · first | rw [nI_leI (by omega) (by omega)] at h38 | rw [zi_leN (by omega)] at h38 | rw [zi_Nle (by omega)] at h38 | rw [zi_le] at h38
          have hp0 := hpq
          rw [show p = p - 1 + 1 by omega, wout, if_neg (by rw [show p - 1 + 1 = p by omega]; omega), show p - 1 + 1 = p by omega] at hp0
          refine go_aload_n (i := 0) (pc := 47) dX11_without_47 rfl rfl ?_
          refine go_getr2 fl_X11_83 (pc := 48) dX11_without_48 (by first | rfl | (apply zL_ci <;> assumption) | (apply zR_ci <;> assumption)) (by first | rfl | (apply zL_in <;> first | assumption | decide) | (apply zR_in <;> first | assumption | decide)) (by first | rfl | (apply zL_fr0 <;> assumption) | (apply zL_fr1 <;> assumption) | (apply zR_fr0 <;> assumption) | (apply zR_fr1 <;> assumption) | (apply zR_fr2 <;> assumption) | (apply zR_fr3 <;> assumption)) ?_
          refine go_aload_n (i := 0) (pc := 51) dX11_without_51 rfl rfl ?_
          refine go_getr2 fl_X11_33 (pc := 52) dX11_without_52 (by first | rfl | (apply zL_ci <;> assumption) | (apply zR_ci <;> assumption)) (by first | rfl | (apply zL_in <;> first | assumption | decide) | (apply zR_in <;> first | assumption | decide)) (by first | rfl | (apply zL_fr0 <;> assumption) | (apply zL_fr1 <;> assumption) | (apply zR_fr0 <;> assumption) | (apply zR_fr1 <;> assumption) | (apply zR_fr2 <;> assumption) | (apply zR_fr3 <;> assumption)) ?_
          refine go_iload_n (i := 1) (pc := 55) dX11_without_55 rfl rfl ?_
          refine go_callV ml_X11_317 mt_X10_poorerSorts (pc := 56) dX11_without_56 (c_X10_poorerSorts hT (by omega)) (by first | rfl | (apply zL_cq <;> assumption) | (apply zR_cq <;> assumption)) rfl (by first | rfl | (apply zL_in <;> first | assumption | decide) | (apply zR_in <;> first | assumption | decide)) (by decide) (by decide) rfl rfl (Nat.le_of_ble_eq_true rfl) (fun r σ' hp => ?_)
          obtain ⟨rfl, hσ⟩ := hp
          rw [hσ]
          clear hσ σ'
          dsimp only [zRet]
          refine go_i2l (pc := 59) dX11_without_59 ?_
          have hbl : poorB tw.2.2 v1 tw.1 < 2 ^ tw.1 := bits_lt (b := fun i => tw.2.2 i < v1) tw.1
          have hbl2 : 2 ^ tw.1 ≤ 2 ^ 8 := Nat.pow_le_pow_right (by decide) ht8
          rw [nI_l (by omega)]
          refine go_iload_n (i := 3) (pc := 60) dX11_without_60 rfl rfl ?_
          refine go_i2l (pc := 61) dX11_without_61 ?_
          rw [nI_l (by omega)]
          refine go_callV ml_X11_223 mt_X9_two (pc := 62) dX11_without_62 (c_X9_two) (by first | rfl | (apply zL_cq <;> assumption) | (apply zR_cq <;> assumption)) rfl (by first | rfl | (apply zL_in <;> first | assumption | decide) | (apply zR_in <;> first | assumption | decide)) (by decide) (by decide) rfl rfl (Nat.le_of_ble_eq_true rfl) (fun r σ' hp => ?_)
          obtain ⟨rfl, hT4, hf4⟩ := hp
          dsimp only [zRet]
          refine go_iload_n (i := 2) (pc := 65) dX11_without_65 rfl rfl ?_
          refine go_ireturn (pc := 66) dX11_without_66 rfl ?_
          rw [hp0]
          exact ⟨rfl, hC.setTo (to' := (2, _)) hf4 hT4, Fr33.of hf4 (by simp)⟩
        · first | rw [nI_leI (by omega) (by omega)] at h38 | rw [zi_leN (by omega)] at h38 | rw [zi_Nle (by omega)] at h38 | rw [zi_le] at h38
          have hp0 := hpq
          rw [show p = p - 1 + 1 by omega, wout, if_pos (by rw [show p - 1 + 1 = p by omega]; omega)] at hp0
          refine go_iinc (nI (p - 1)) (pc := 41) dX11_without_41 rfl (by rw [show p = p - 1 + 1 by omega]; exact pk_m1 _) (by decide) ?_
          refine go_goto 23 (pc := 44) dX11_without_44 (by decide) ?_
          exact ih (p - 1) (by omega) (by omega) hp0
  refine go_iload_n (i := 1) (pc := 0) dX11_without_0 rfl rfl ?_
  refine go_if_lt 10 (pc := 1) dX11_without_1 (by decide) (fun h1 => ?_) (fun h1 => ?_)
  · first | rw [zb_0d] at h1 | rw [zn_lt0 (by omega)] at h1 | rw [zi_lt0] at h1
    refine go_iconst (-1) (pc := 10) dX11_without_10 (by decide) ?_
    refine go_ireturn (pc := 11) dX11_without_11 rfl ?_
    rw [if_neg (by omega), if_neg (by omega)]
    exact ⟨rfl, hC, Fr33.rf⟩
  · first | rw [zb_0d] at h1 | rw [zn_lt0 (by omega)] at h1 | rw [zi_lt0] at h1
    refine go_iload_n (i := 1) (pc := 4) dX11_without_4 rfl rfl ?_
    refine go_bipush (nI 99) (pc := 5) dX11_without_5 (by decide) ?_
    refine go_icmp_le 12 (pc := 7) dX11_without_7 (by decide) (fun h7 => ?_) (fun h7 => ?_)
    · first | rw [nI_leI (by omega) (by omega)] at h7 | rw [zi_leN (by omega)] at h7 | rw [zi_Nle (by omega)] at h7 | rw [zi_le] at h7
      rw [if_pos (show in0 v 99 from by omega), if_pos (show in0 v 99 from by omega)]
      have ev := nI_of' (x := v) (by omega)
      generalize hqv : v.toInt.toNat = v1 at ev ⊢
      have hv1 : v1 ≤ 99 := by omega
      subst ev
      refine go_aload_n (i := 0) (pc := 12) dX11_without_12 rfl rfl ?_
      refine go_getr2 fl_X11_33 (pc := 13) dX11_without_13 (by first | rfl | (apply zL_ci <;> assumption) | (apply zR_ci <;> assumption)) (by first | rfl | (apply zL_in <;> first | assumption | decide) | (apply zR_in <;> first | assumption | decide)) (by first | rfl | (apply zL_fr0 <;> assumption) | (apply zL_fr1 <;> assumption) | (apply zR_fr0 <;> assumption) | (apply zR_fr1 <;> assumption) | (apply zR_fr2 <;> assumption) | (apply zR_fr3 <;> assumption)) ?_
      refine go_iload_n (i := 1) (pc := 16) dX11_without_16 rfl rfl ?_
      refine go_callV ml_X11_308 mt_X10_poorer (pc := 17) dX11_without_17 (c_X10_poorer hT (by omega)) (by first | rfl | (apply zL_cq <;> assumption) | (apply zR_cq <;> assumption)) rfl (by first | rfl | (apply zL_in <;> first | assumption | decide) | (apply zR_in <;> first | assumption | decide)) (by decide) (by decide) rfl rfl (Nat.le_of_ble_eq_true rfl) (fun r σ' hp => ?_)
      obtain ⟨rfl, hσ⟩ := hp
      rw [hσ]
      clear hσ σ'
      dsimp only [zRet]
      refine go_istore_n (i := 2) (pc := 20) dX11_without_20 rfl (by decide) ?_
      refine go_iload_n (i := 1) (pc := 21) dX11_without_21 rfl rfl ?_
      refine go_istore_n (i := 3) (pc := 22) dX11_without_22 rfl (by decide) ?_
      exact loop v1 v1 hv1 (Nat.le_refl _) rfl
    · first | rw [nI_leI (by omega) (by omega)] at h7 | rw [zi_leN (by omega)] at h7 | rw [zi_Nle (by omega)] at h7 | rw [zi_le] at h7
      refine go_iconst (-1) (pc := 10) dX11_without_10 (by decide) ?_
      refine go_ireturn (pc := 11) dX11_without_11 rfl ?_
      rw [if_neg (by omega), if_neg (by omega)]
      exact ⟨rfl, hC, Fr33.rf⟩

