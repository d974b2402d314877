/-! where so many men are to stand -/
def plc (p : Nat → Nat) (i : Nat) (ρ : Nat → Nat) : Nat → Nat := fun j => if 12 ≤ j ∧ j < 12 + i then p (j - 12) else ρ j
theorem plc_up (p : Nat → Nat) (i : Nat) (ρ : Nat → Nat) : va_up (plc p i ρ) (12 + i) (p i) = plc p (i + 1) ρ := by
  funext j
  rw [va_at']
  unfold plc
  by_cases h : j = 12 + i
  · rw [if_pos h, if_pos (by omega), h, Nat.add_sub_cancel_left]
  · rw [if_neg h]
    by_cases h2 : 12 ≤ j ∧ j < 12 + i
    · rw [if_pos h2, if_pos (by omega)]
    · rw [if_neg h2, if_neg (by omega)]
theorem plc_0 (p : Nat → Nat) (ρ : Nat → Nat) : plc p 0 ρ = ρ := by funext j; exact if_neg (by omega)
theorem plc_cong {p q : Nat → Nat} {n : Nat} {ρ : Nat → Nat} (h : ∀ i, i < n → p i = q i) : plc p n ρ = plc q n ρ := by
  funext j
  unfold plc
  split
  · exact h _ (by omega)
  · rfl
def cut (n : Nat) (p : Nat → Nat) : Nat → Nat := fun i => if i < n then p i else 0
/-- loads with men so placed -/
def lpl (V : zV) (ρ : Nat → Nat) (p : Nat → Nat) : Nat := (crsA V 0 (plc p (vN V) ρ)).2.1
/-- one placing tried: the fewest loads so far, and where -/
def evp (n : Nat) (L : (Nat → Nat) → Nat) (p : Nat → Nat) (st : Nat × (Nat → Nat)) : Nat × (Nat → Nat) := if L p < st.1 then (L p, cut n p) else st
def frm (p : Nat → Nat) : Nat → Nat
  | 0 => 0
  | j + 1 => if p (j + 1) = 0 then frm p j else j + 1
theorem frm_le (p : Nat → Nat) (j : Nat) : frm p j ≤ j := by
  induction j with
  | zero => exact Nat.le_refl _
  | succ j ih => unfold frm; split <;> omega
theorem frm_z {p : Nat → Nat} {j : Nat} : ∀ i, frm p j < i → i ≤ j → p i = 0 := by
  induction j with
  | zero => intro i h1 h2; omega
  | succ j ih =>
    intro i h1 h2
    unfold frm at h1
    split at h1
    · rename_i h0
      by_cases e : i = j + 1
      · rw [e]; exact h0
      · exact ih i h1 (by omega)
    · omega
theorem frm_nz {p : Nat → Nat} {j : Nat} (h : frm p j ≠ 0) : p (frm p j) ≠ 0 := by
  induction j with
  | zero => exact absurd rfl h
  | succ j ih =>
    by_cases h0 : p (j + 1) = 0
    · have e : frm p (j + 1) = frm p j := by rw [frm, if_pos h0]
      rw [e] at h ⊢
      exact ih h
    · have e : frm p (j + 1) = j + 1 := by rw [frm, if_neg h0]
      rw [e]
      exact h0
def nxP (l : Nat) (p : Nat → Nat) : Option (Nat → Nat) := if frm p l = 0 then none else some (va_up (va_up (va_up p (frm p l) 0) (frm p l - 1) (p (frm p l - 1) + 1)) l (p (frm p l) - 1))
theorem sumN_vup {n m v : Nat} {g : Nat → Nat} (hm : m < n) : sumN n (va_up g m v) + g m = sumN n g + v := sumN_up hm
theorem nxP_sum {l : Nat} {p q : Nat → Nat} (h : nxP l p = some q) : sumN (l + 1) q = sumN (l + 1) p := by
  unfold nxP at h
  split at h
  · cases h
  · rename_i h0
    cases h
    have h1 := frm_le p l
    have h2 := frm_nz h0
    have a1 := sumN_vup (n := l + 1) (m := frm p l) (v := 0) (g := p) (by omega)
    have a2 := sumN_vup (n := l + 1) (m := frm p l - 1) (v := p (frm p l - 1) + 1) (g := va_up p (frm p l) 0) (by omega)
    have a3 := sumN_vup (n := l + 1) (m := l) (v := p (frm p l) - 1) (g := va_up (va_up p (frm p l) 0) (frm p l - 1) (p (frm p l - 1) + 1)) (by omega)
    have e2 : va_up p (frm p l) 0 (frm p l - 1) = p (frm p l - 1) := by rw [va_at', if_neg (by omega)]
    have e3 : va_up (va_up p (frm p l) 0) (frm p l - 1) (p (frm p l - 1) + 1) l = 0 := by
      rw [va_at', if_neg (by omega), va_at']
      split
      · rfl
      · exact frm_z l (by omega) (Nat.le_refl _)
    omega
def runC (n : Nat) (L : (Nat → Nat) → Nat) (l : Nat) : Nat → (Nat → Nat) → Nat × (Nat → Nat) → (Nat → Nat) × (Nat × (Nat → Nat))
  | 0, p, st => (p, evp n L p st)
  | j + 1, p, st => match nxP l p with
    | none => (p, evp n L p st)
    | some q => runC n L l j q (evp n L p st)
theorem runC_0 {n : Nat} {L : (Nat → Nat) → Nat} {l : Nat} {w : Nat → Nat} : ∀ (j : Nat) (p : Nat → Nat), (runC n L l j p (0, w)).2 = (0, w) := by
  have e : ∀ p, evp n L p (0, w) = (0, w) := fun p => by unfold evp; rw [if_neg (by dsimp only; omega)]
  intro j
  induction j with
  | zero => intro p; exact e p
  | succ j ih =>
    intro p
    unfold runC
    split
    · exact e p
    · rw [e]; exact ih _
def toB (n : Nat) (to : Nat × (Nat → Int64)) (st : Nat × (Nat → Nat)) : Nat × (Nat → Int64) := if st.1 = 1000000 then to else (n, fun i => lN (st.2 i))

theorem c_X9_these {E : zE} {σ : zT} {n : Nat} {p : Nat → Nat} (hn : n ≤ 12) (hp0 : ∀ i, i < n → σ.2.1 0 2 i = nI (p i) ∧ p i ≤ 9) : CalM E 0 yX9_these cX9_these 4 none [.ref (zA E 30 0), .ref (zA E 0 2), .int (nI n)] σ (fun r σ' => r = none ∧ ToldIs σ' n (fun i => lN (cut n p i)) ∧ FrG [30] σ σ') := by
  refine cal_of_go (own := RX9) rfl (by decide +kernel) (Nat.le_of_ble_eq_true rfl) ?_
  have loop : ∀ (i : Nat) (τ : zT), i ≤ n → (τ.1 30 1 = nI i) → (∀ j, j < i → τ.2.2.1 30 j = lN (cut n p j)) → (FrG [30] σ τ) → GoM E 0 RX9 cX9_these 4 none (fun r σ' => r = none ∧ ToldIs σ' n (fun i => lN (cut n p i)) ∧ FrG [30] σ σ') τ 7 [(0, .ref (zA E 30 0)), (1, .ref (zA E 0 2)), (2, .int (nI n)), (3, .int (nI i))] [] := by
    intro i
    induction hj : n - i using Nat.strongRecOn generalizing i with
    | ind z ih =>
      intro τ hi hs hr hf
      have hq : ∀ j, j < n → τ.2.1 0 2 j = nI (p j) ∧ p j ≤ 9 := fun j hj => by rw [(hf.1 0 (by simp)).2.1]; exact hp0 j hj
      refine go_iload_n (i := 3) (pc := 7) dX9_these_7 rfl rfl ?_
      refine go_iload_n (i := 2) (pc := 8) dX9_these_8 rfl rfl ?_
      refine go_icmp_ge 50 (pc := 9) dX9_these_9 (by decide) (fun h9 => ?_) (fun h9 => ?_)
      · first | rw [nI_leI (by omega) (by omega)] at h9 | rw [zi_leN (by omega)] at h9 | rw [zi_Nle (by omega)] at h9 | rw [zi_le] at h9
        have ei : i = n := by omega
        subst ei
        refine go_return (pc := 50) dX9_these_50 rfl ?_
        exact ⟨rfl, ⟨hn, hs, fun j hj => hr j hj⟩, hf⟩
      · first | rw [nI_leI (by omega) (by omega)] at h9 | rw [zi_leN (by omega)] at h9 | rw [zi_Nle (by omega)] at h9 | rw [zi_le] at h9
        refine go_iload_n (i := 3) (pc := 12) dX9_these_12 rfl rfl ?_
        refine go_aload_n (i := 1) (pc := 13) dX9_these_13 rfl rfl ?_
        refine go_alen (pc := 14) dX9_these_14 (by first | rfl | (apply zL_ar1 <;> assumption) | (apply zL_ar2 <;> assumption) | (apply zR_ar1 <;> assumption) | (apply zR_ar2 <;> assumption) | (apply zR_ar3 <;> assumption) | (apply zR_ar4 <;> assumption)) (by first | rfl | (apply zL_jn <;> first | assumption | decide) | (apply zR_jn <;> first | assumption | decide)) ?_
        refine go_icmp_ge 50 (pc := 15) dX9_these_15 (by decide) (fun h15 => ?_) (fun h15 => ?_)
        · first | rw [nI_leI (by omega) (by omega)] at h15 | rw [zi_leN (by omega)] at h15 | rw [zi_Nle (by omega)] at h15 | rw [zi_le] at h15
          exfalso
          omega
        · first | rw [nI_leI (by omega) (by omega)] at h15 | rw [zi_leN (by omega)] at h15 | rw [zi_Nle (by omega)] at h15 | rw [zi_le] at h15
          refine go_iload_n (i := 3) (pc := 18) dX9_these_18 rfl rfl ?_
          refine go_aload_n (i := 0) (pc := 19) dX9_these_19 rfl rfl ?_
          refine go_getr2 fl_X9_9 (pc := 20) dX9_these_20 (by first | rfl | (apply zL_ci <;> assumption) | (apply zR_ci <;> assumption)) (by first | rfl | (apply zL_in <;> first | assumption | decide) | (apply zR_in <;> first | assumption | decide)) (by first | rfl | (apply zL_fr0 <;> assumption) | (apply zL_fr1 <;> assumption) | (apply zR_fr0 <;> assumption) | (apply zR_fr1 <;> assumption) | (apply zR_fr2 <;> assumption) | (apply zR_fr3 <;> assumption)) ?_
          refine go_alenL (pc := 23) dX9_these_23 rfl rfl ?_
          refine go_icmp_ge 50 (pc := 24) dX9_these_24 (by decide) (fun h24 => ?_) (fun h24 => ?_)
          · first | rw [nI_leI (by omega) (by omega)] at h24 | rw [zi_leN (by omega)] at h24 | rw [zi_Nle (by omega)] at h24 | rw [zi_le] at h24
            exfalso
            omega
          · first | rw [nI_leI (by omega) (by omega)] at h24 | rw [zi_leN (by omega)] at h24 | rw [zi_Nle (by omega)] at h24 | rw [zi_le] at h24
            refine go_aload_n (i := 0) (pc := 27) dX9_these_27 rfl rfl ?_
            refine go_getr2 fl_X9_9 (pc := 28) dX9_these_28 (by first | rfl | (apply zL_ci <;> assumption) | (apply zR_ci <;> assumption)) (by first | rfl | (apply zL_in <;> first | assumption | decide) | (apply zR_in <;> first | assumption | decide)) (by first | rfl | (apply zL_fr0 <;> assumption) | (apply zL_fr1 <;> assumption) | (apply zR_fr0 <;> assumption) | (apply zR_fr1 <;> assumption) | (apply zR_fr2 <;> assumption) | (apply zR_fr3 <;> assumption)) ?_
            refine go_iload_n (i := 3) (pc := 31) dX9_these_31 rfl rfl ?_
            refine go_aload_n (i := 1) (pc := 32) dX9_these_32 rfl rfl ?_
            refine go_iload_n (i := 3) (pc := 33) dX9_these_33 rfl rfl ?_
            refine go_iaload _ (pc := 34) dX9_these_34 (by first | rfl | (apply zL_ar1 <;> assumption) | (apply zL_ar2 <;> assumption) | (apply zR_ar1 <;> assumption) | (apply zR_ar2 <;> assumption) | (apply zR_ar3 <;> assumption) | (apply zR_ar4 <;> assumption)) (by first | rfl | (apply zL_jn <;> first | assumption | decide) | (apply zR_jn <;> first | assumption | decide)) rfl (by first | assumption | omega) ?_
            rw [(hq i (by omega)).1]
            refine go_i2l (pc := 35) dX9_these_35 ?_
            rw [nI_l (by have := (hq i (by omega)).2; omega)]
            refine go_lastore _ (pc := 36) dX9_these_36 (by first | rfl | (apply zL_ar1 <;> assumption) | (apply zL_ar2 <;> assumption) | (apply zR_ar1 <;> assumption) | (apply zR_ar2 <;> assumption) | (apply zR_ar3 <;> assumption) | (apply zR_ar4 <;> assumption)) (by first | rfl | (apply zL_jn <;> first | assumption | decide) | (apply zR_jn <;> first | assumption | decide)) (by first | exact zl_30 | exact zl_33 | exact zl_34) rfl (by first | assumption | omega) ?_
            refine go_aload_n (i := 0) (pc := 37) dX9_these_37 rfl rfl ?_
            refine go_iload_n (i := 3) (pc := 38) dX9_these_38 rfl rfl ?_
            refine go_iconst (nI 1) (pc := 39) dX9_these_39 (by decide) ?_
            first | with_reducible refine go_iaddN (pc := 40) dX9_these_40 ?_ | refine go_iadd (pc := 40) dX9_these_40 ?_
            refine go_puti fp_X9_15 (pc := 41) dX9_these_41 (by first | rfl | (apply zL_fi <;> first | assumption | decide) | (apply zR_fi <;> first | assumption | decide)) rfl rfl ?_
            refine go_iincN (pc := 44) dX9_these_44 rfl (by decide) ?_
            refine go_goto 7 (pc := 47) dX9_these_47 (by decide) ?_
            exact ih (n - (i + 1)) (by omega) (i + 1) rfl _ (by omega) (uS_s _ _ _ _) (fun j hj => by rw [uS_2, uL_3, if_pos rfl, updL_at]; split; rename_i e; rw [e]; unfold cut; rw [if_pos (by omega)]; exact hr j (by omega)) ((hf.uL (by simp)).uS (by simp))
  refine go_aload_n (i := 0) (pc := 0) dX9_these_0 rfl rfl ?_
  refine go_iconst (nI 0) (pc := 1) dX9_these_1 (by decide) ?_
  refine go_puti fp_X9_15 (pc := 2) dX9_these_2 (by first | rfl | (apply zL_fi <;> first | assumption | decide) | (apply zR_fi <;> first | assumption | decide)) rfl rfl ?_
  refine go_iconst (nI 0) (pc := 5) dX9_these_5 (by decide) ?_
  refine go_istore_n (i := 3) (pc := 6) dX9_these_6 rfl (by decide) ?_
  exact loop 0 _ (by omega) (uS_s _ _ _ _) (fun j hj => absurd hj (by omega)) (FrG.rf.uS (by simp))

theorem c_X11_loadsPlaced {E : zE} {σ : zT} {tx : Nat × (Nat → Nat)} {bd : Nat × (Nat → Nat) × (Nat → Nat)} {sk : Nat × (Nat → Nat)} {tw : Nat × (Nat → Nat) × (Nat → Nat)} {xs : List Nat} {ld : Nat × (Nat → Nat)} {pa sh : Nat × (Nat → Nat → Nat)} {ru : Nat × (Nat → Nat) × (Nat → Nat)} {to : Nat × (Nat → Int64)} {p : Nat → Nat} (hC : ClsIs σ tx bd sk tw xs ld pa sh ru to) (hp0 : ∀ i, i < ld.1 → σ.2.1 0 2 i = nI (p i) ∧ p i ≤ 9) : CalM E 5 yX11_loadsPlaced cX11_loadsPlaced 2 (some .int) [.ref (zA E 0 0)] σ (fun r σ' => r = some (.int (nI (lpl (vOf bd sk xs ld.1) ld.2 p))) ∧ ClsIs σ' tx bd sk tw xs ld pa sh ru to ∧ Fr33 σ σ' ∧ σ'.2.1 0 2 = σ.2.1 0 2) := by
  refine cal_of_go (own := RX11) rfl (by decide +kernel) (Nat.le_of_ble_eq_true rfl) ?_
  have hL := hC.2.2.2.2.2.1
  have hn := hL.b
  have hok := hL.1
  have hB0 := hC.2.2.1
  have hnc := hB0.1
  have loop : ∀ (i : Nat) (τ : zT), i ≤ ld.1 → (ClsIs τ tx bd sk tw xs ld pa sh ru to) → (Fr33 σ τ) → (LandIs τ 7 ld.1 (plc p i ld.2)) → (τ.2.1 0 2 = σ.2.1 0 2) → GoM E 5 RX11 cX11_loadsPlaced 2 (some .int) (fun r σ' => r = some (.int (nI (lpl (vOf bd sk xs ld.1) ld.2 p))) ∧ ClsIs σ' tx bd sk tw xs ld pa sh ru to ∧ Fr33 σ σ' ∧ σ'.2.1 0 2 = σ.2.1 0 2) τ 13 [(0, .ref (zA E 0 0)), (1, .int (nI i))] [] := by
    intro i
    induction hj : ld.1 - i using Nat.strongRecOn generalizing i with
    | ind z ih =>
      intro τ hi hCt hF hT h02
      refine go_iload_n (i := 1) (pc := 13) dX11_loadsPlaced_13 rfl rfl ?_
      refine go_aload_n (i := 0) (pc := 14) dX11_loadsPlaced_14 rfl rfl ?_
      refine go_getr2 fl_X11_49 (pc := 15) dX11_loadsPlaced_15 (by first | rfl | (apply zL_ci <;> assumption) | (apply zR_ci <;> assumption)) (by first | rfl | (apply zL_in <;> first | assumption | decide) | (apply zR_in <;> first | assumption | decide)) (by first | rfl | (apply zL_fr0 <;> assumption) | (apply zL_fr1 <;> assumption) | (apply zR_fr0 <;> assumption) | (apply zR_fr1 <;> assumption) | (apply zR_fr2 <;> assumption) | (apply zR_fr3 <;> assumption)) ?_
      refine go_callV ml_X11_127 mt_X2_miles (pc := 18) dX11_loadsPlaced_18 (c_X2_miles rfl hCt.2.2.2.2.2.1) (by first | rfl | (apply zL_cq <;> assumption) | (apply zR_cq <;> assumption)) rfl (by first | rfl | (apply zL_in <;> first | assumption | decide) | (apply zR_in <;> first | assumption | decide)) (by decide) (by decide) rfl rfl (Nat.le_of_ble_eq_true rfl) (fun r σ' hp => ?_)
      obtain ⟨rfl, hσ⟩ := hp
      rw [hσ]
      clear hσ σ'
      dsimp only [zRet]
      refine go_icmp_ge 53 (pc := 21) dX11_loadsPlaced_21 (by decide) (fun h21 => ?_) (fun h21 => ?_)
      · first | rw [nI_leI (by omega) (by omega)] at h21 | rw [zi_leN (by omega)] at h21 | rw [zi_Nle (by omega)] at h21 | rw [zi_le] at h21
        have ei : i = ld.1 := by omega
        subst ei
        obtain ⟨kr, hkr, hz, hR14, hW⟩ := hCt.w (kl := 7) rfl hT
        refine go_aload_n (i := 0) (pc := 53) dX11_loadsPlaced_53 rfl rfl ?_
        refine go_getr2 fl_X11_42 (pc := 54) dX11_loadsPlaced_54 (by first | rfl | (apply zL_ci <;> assumption) | (apply zR_ci <;> assumption)) (by first | rfl | (apply zL_in <;> first | assumption | decide) | (apply zR_in <;> first | assumption | decide)) (by first | rfl | (apply zL_fr0 <;> assumption) | (apply zL_fr1 <;> assumption) | (apply zR_fr0 <;> assumption) | (apply zR_fr1 <;> assumption) | (apply zR_fr2 <;> assumption) | (apply zR_fr3 <;> assumption)) ?_
        refine go_aload_n (i := 0) (pc := 57) dX11_loadsPlaced_57 rfl rfl ?_
        refine go_getR fl_X11_97 (pc := 58) dX11_loadsPlaced_58 rfl ?_
        rw [hR14]
        refine go_aload_n (i := 0) (pc := 61) dX11_loadsPlaced_61 rfl rfl ?_
        refine go_getr2 fl_X11_53 (pc := 62) dX11_loadsPlaced_62 (by first | rfl | (apply zL_ci <;> assumption) | (apply zR_ci <;> assumption)) (by first | rfl | (apply zL_in <;> first | assumption | decide) | (apply zR_in <;> first | assumption | decide)) (by first | rfl | (apply zL_fr0 <;> assumption) | (apply zL_fr1 <;> assumption) | (apply zR_fr0 <;> assumption) | (apply zR_fr1 <;> assumption) | (apply zR_fr2 <;> assumption) | (apply zR_fr3 <;> assumption)) ?_
        refine go_iconst (nI 0) (pc := 65) dX11_loadsPlaced_65 (by decide) ?_
        refine go_callV ml_X11_288 mt_X1_cross (pc := 66) dX11_loadsPlaced_66 (c_X1_cross hW (by decide)) (by first | rfl | (apply zL_cq <;> assumption) | (apply zR_cq <;> assumption)) rfl (by first | rfl | (apply zL_in <;> first | assumption | decide) | (apply zR_in <;> first | assumption | decide)) (by decide) (by decide) rfl rfl (Nat.le_of_ble_eq_true rfl) (fun r σ' hp => ?_)
        obtain ⟨rfl, hE4, hom, hW2, hf2, hE⟩ := hp
        dsimp only [zRet]
        have hC2 := hCt.try hz hR14 (Or.inl rfl) hf2 rfl hW2
        refine go_ireturn (pc := 69) dX11_loadsPlaced_69 rfl ?_
        exact ⟨rfl, hC2, hF.tr (Fr33.of hf2 (by simp; omega)), by rw [(hf2.1 0 (by simp; omega)).2.1]; exact h02⟩
      · first | rw [nI_leI (by omega) (by omega)] at h21 | rw [zi_leN (by omega)] at h21 | rw [zi_Nle (by omega)] at h21 | rw [zi_le] at h21
        refine go_iload_n (i := 1) (pc := 24) dX11_loadsPlaced_24 rfl rfl ?_
        refine go_aload_n (i := 0) (pc := 25) dX11_loadsPlaced_25 rfl rfl ?_
        refine go_getr2 fl_X11_91 (pc := 26) dX11_loadsPlaced_26 (by first | rfl | (apply zL_ci <;> assumption) | (apply zR_ci <;> assumption)) (by first | rfl | (apply zL_in <;> first | assumption | decide) | (apply zR_in <;> first | assumption | decide)) (by first | rfl | (apply zL_fr0 <;> assumption) | (apply zL_fr1 <;> assumption) | (apply zR_fr0 <;> assumption) | (apply zR_fr1 <;> assumption) | (apply zR_fr2 <;> assumption) | (apply zR_fr3 <;> assumption)) ?_
        refine go_alen (pc := 29) dX11_loadsPlaced_29 (by first | rfl | (apply zL_ar1 <;> assumption) | (apply zL_ar2 <;> assumption) | (apply zR_ar1 <;> assumption) | (apply zR_ar2 <;> assumption) | (apply zR_ar3 <;> assumption) | (apply zR_ar4 <;> assumption)) (by first | rfl | (apply zL_jn <;> first | assumption | decide) | (apply zR_jn <;> first | assumption | decide)) ?_
        refine go_icmp_ge 53 (pc := 30) dX11_loadsPlaced_30 (by decide) (fun h30 => ?_) (fun h30 => ?_)
        · first | rw [nI_leI (by omega) (by omega)] at h30 | rw [zi_leN (by omega)] at h30 | rw [zi_Nle (by omega)] at h30 | rw [zi_le] at h30
          exfalso
          omega
        · first | rw [nI_leI (by omega) (by omega)] at h30 | rw [zi_leN (by omega)] at h30 | rw [zi_Nle (by omega)] at h30 | rw [zi_le] at h30
          have hq := hp0 i (by omega)
          refine go_aload_n (i := 0) (pc := 33) dX11_loadsPlaced_33 rfl rfl ?_
          refine go_getr2 fl_X11_53 (pc := 34) dX11_loadsPlaced_34 (by first | rfl | (apply zL_ci <;> assumption) | (apply zR_ci <;> assumption)) (by first | rfl | (apply zL_in <;> first | assumption | decide) | (apply zR_in <;> first | assumption | decide)) (by first | rfl | (apply zL_fr0 <;> assumption) | (apply zL_fr1 <;> assumption) | (apply zR_fr0 <;> assumption) | (apply zR_fr1 <;> assumption) | (apply zR_fr2 <;> assumption) | (apply zR_fr3 <;> assumption)) ?_
          refine go_iload_n (i := 1) (pc := 37) dX11_loadsPlaced_37 rfl rfl ?_
          refine go_aload_n (i := 0) (pc := 38) dX11_loadsPlaced_38 rfl rfl ?_
          refine go_getr2 fl_X11_91 (pc := 39) dX11_loadsPlaced_39 (by first | rfl | (apply zL_ci <;> assumption) | (apply zR_ci <;> assumption)) (by first | rfl | (apply zL_in <;> first | assumption | decide) | (apply zR_in <;> first | assumption | decide)) (by first | rfl | (apply zL_fr0 <;> assumption) | (apply zL_fr1 <;> assumption) | (apply zR_fr0 <;> assumption) | (apply zR_fr1 <;> assumption) | (apply zR_fr2 <;> assumption) | (apply zR_fr3 <;> assumption)) ?_
          refine go_iload_n (i := 1) (pc := 42) dX11_loadsPlaced_42 rfl rfl ?_
          refine go_iaload _ (pc := 43) dX11_loadsPlaced_43 (by first | rfl | (apply zL_ar1 <;> assumption) | (apply zL_ar2 <;> assumption) | (apply zR_ar1 <;> assumption) | (apply zR_ar2 <;> assumption) | (apply zR_ar3 <;> assumption) | (apply zR_ar4 <;> assumption)) (by first | rfl | (apply zL_jn <;> first | assumption | decide) | (apply zR_jn <;> first | assumption | decide)) rfl (by first | assumption | omega) ?_
          rw [h02, hq.1]
          refine go_callV ml_X11_260 mt_X2_setMen (pc := 44) dX11_loadsPlaced_44 (c_X2_setMen rfl hT (by omega)) (by first | rfl | (apply zL_cq <;> assumption) | (apply zR_cq <;> assumption)) rfl (by first | rfl | (apply zL_in <;> first | assumption | decide) | (apply zR_in <;> first | assumption | decide)) (by decide) (by decide) rfl rfl (Nat.le_of_ble_eq_true rfl) (fun r σ' hp => ?_)
          obtain ⟨rfl, hL2, hf⟩ := hp
          dsimp only [zRet]
          rw [clp_in hq.2 (by decide), plc_up] at hL2
          refine go_iincN (pc := 47) dX11_loadsPlaced_47 rfl (by decide) ?_
          refine go_goto 13 (pc := 50) dX11_loadsPlaced_50 (by decide) ?_
          exact ih (ld.1 - (i + 1)) (by omega) (i + 1) rfl _ (by omega) (hCt.fr hf (by simp)) (hF.tr (Fr33.of hf (by simp))) hL2 (by rw [(hf.1 0 (by simp)).2.1]; exact h02)
  refine go_aload_n (i := 0) (pc := 0) dX11_loadsPlaced_0 rfl rfl ?_
  refine go_getr2 fl_X11_53 (pc := 1) dX11_loadsPlaced_1 (by first | rfl | (apply zL_ci <;> assumption) | (apply zR_ci <;> assumption)) (by first | rfl | (apply zL_in <;> first | assumption | decide) | (apply zR_in <;> first | assumption | decide)) (by first | rfl | (apply zL_fr0 <;> assumption) | (apply zL_fr1 <;> assumption) | (apply zR_fr0 <;> assumption) | (apply zR_fr1 <;> assumption) | (apply zR_fr2 <;> assumption) | (apply zR_fr3 <;> assumption)) ?_
  refine go_aload_n (i := 0) (pc := 4) dX11_loadsPlaced_4 rfl rfl ?_
  refine go_getr2 fl_X11_49 (pc := 5) dX11_loadsPlaced_5 (by first | rfl | (apply zL_ci <;> assumption) | (apply zR_ci <;> assumption)) (by first | rfl | (apply zL_in <;> first | assumption | decide) | (apply zR_in <;> first | assumption | decide)) (by first | rfl | (apply zL_fr0 <;> assumption) | (apply zL_fr1 <;> assumption) | (apply zR_fr0 <;> assumption) | (apply zR_fr1 <;> assumption) | (apply zR_fr2 <;> assumption) | (apply zR_fr3 <;> assumption)) ?_
  refine go_callV ml_X11_198 mt_X2_copyFrom (pc := 8) dX11_loadsPlaced_8 (c_X2_copyFrom rfl rfl hL) (by first | rfl | (apply zL_cq <;> assumption) | (apply zR_cq <;> assumption)) rfl (by first | rfl | (apply zL_in <;> first | assumption | decide) | (apply zR_in <;> first | assumption | decide)) (by decide) (by decide) rfl rfl (Nat.le_of_ble_eq_true rfl) (fun r σ' hp => ?_)
  obtain ⟨rfl, hb, hf⟩ := hp
  dsimp only [zRet]
  have hC1 := hC.fr hf (by simp)
  refine go_iconst (nI 0) (pc := 11) dX11_loadsPlaced_11 (by decide) ?_
  refine go_istore_n (i := 1) (pc := 12) dX11_loadsPlaced_12 rfl (by decide) ?_
  exact loop 0 _ (by omega) hC1 (Fr33.of hf (by simp)) (by rw [plc_0]; exact hb) (by rw [(hf.1 0 (by simp)).2.1])

theorem c_X11_nextPlacing {E : zE} {σ : zT} {l : Nat} {p : Nat → Nat} (hl : l < 12) (hp0 : ∀ i, i ≤ l → σ.2.1 0 2 i = nI (p i) ∧ p i ≤ 9) : CalM E 0 yX11_nextPlacing cX11_nextPlacing 4 (some .boolean) [.ref (zA E 0 0), .int (nI l)] σ (fun r σ' => r = some (.int (zb (nxP l p).isSome)) ∧ (match nxP l p with | none => σ' = σ | some q => (∀ i, i ≤ l → σ'.2.1 0 2 i = nI (q i)) ∧ FrG [0] σ σ')) := by
  refine cal_of_go (own := RX11) rfl (by decide +kernel) (Nat.le_of_ble_eq_true rfl) ?_
  have loop : ∀ f : Nat, f ≤ l → frm p l = frm p f → GoM E 0 RX11 cX11_nextPlacing 4 (some .boolean) (fun r σ' => r = some (.int (zb (nxP l p).isSome)) ∧ (match nxP l p with | none => σ' = σ | some q => (∀ i, i ≤ l → σ'.2.1 0 2 i = nI (q i)) ∧ FrG [0] σ σ')) σ 2 [(0, .ref (zA E 0 0)), (1, .int (nI l)), (2, .int (nI f))] [] := by
    intro f
    induction f using Nat.strongRecOn with
    | ind f ih =>
      intro hfl hfq
      refine go_iload_n (i := 2) (pc := 2) dX11_nextPlacing_2 rfl rfl ?_
      refine go_if_le 21 (pc := 3) dX11_nextPlacing_3 (by decide) (fun h3 => ?_) (fun h3 => ?_)
      · first | rw [zb_0d] at h3 | rw [zn_le0 (by omega)] at h3 | rw [zi_le0] at h3
        have ef : f = 0 := by omega
        subst ef
        have hfr : frm p l = 0 := hfq
        refine go_iload_n (i := 2) (pc := 21) dX11_nextPlacing_21 rfl rfl ?_
        refine go_if_gt 27 (pc := 22) dX11_nextPlacing_22 (by decide) (fun h22 => ?_) (fun h22 => ?_)
        · first | rw [zb_0d] at h22 | rw [zn_gt0 (by omega)] at h22 | rw [zi_gt0] at h22
          try (exfalso; omega)
          all_goals (
            refine go_aload_n (i := 0) (pc := 27) dX11_nextPlacing_27 rfl rfl ?_
            refine go_getr2 fl_X11_91 (pc := 28) dX11_nextPlacing_28 (by first | rfl | (apply zL_ci <;> assumption) | (apply zR_ci <;> assumption)) (by first | rfl | (apply zL_in <;> first | assumption | decide) | (apply zR_in <;> first | assumption | decide)) (by first | rfl | (apply zL_fr0 <;> assumption) | (apply zL_fr1 <;> assumption) | (apply zR_fr0 <;> assumption) | (apply zR_fr1 <;> assumption) | (apply zR_fr2 <;> assumption) | (apply zR_fr3 <;> assumption)) ?_
            refine go_iload_n (i := 2) (pc := 31) dX11_nextPlacing_31 rfl rfl ?_
            refine go_iaload _ (pc := 32) dX11_nextPlacing_32 (by first | rfl | (apply zL_ar1 <;> assumption) | (apply zL_ar2 <;> assumption) | (apply zR_ar1 <;> assumption) | (apply zR_ar2 <;> assumption) | (apply zR_ar3 <;> assumption) | (apply zR_ar4 <;> assumption)) (by first | rfl | (apply zL_jn <;> first | assumption | decide) | (apply zR_jn <;> first | assumption | decide)) rfl (by first | assumption | omega) ?_
            rw [(hp0 f (by omega)).1]
            refine go_istore_n (i := 3) (pc := 33) dX11_nextPlacing_33 rfl (by decide) ?_
            refine go_aload_n (i := 0) (pc := 34) dX11_nextPlacing_34 rfl rfl ?_
            refine go_getr2 fl_X11_91 (pc := 35) dX11_nextPlacing_35 (by first | rfl | (apply zL_ci <;> assumption) | (apply zR_ci <;> assumption)) (by first | rfl | (apply zL_in <;> first | assumption | decide) | (apply zR_in <;> first | assumption | decide)) (by first | rfl | (apply zL_fr0 <;> assumption) | (apply zL_fr1 <;> assumption) | (apply zR_fr0 <;> assumption) | (apply zR_fr1 <;> assumption) | (apply zR_fr2 <;> assumption) | (apply zR_fr3 <;> assumption)) ?_
            refine go_iload_n (i := 2) (pc := 38) dX11_nextPlacing_38 rfl rfl ?_
            refine go_iconst (nI 0) (pc := 39) dX11_nextPlacing_39 (by decide) ?_
            refine go_iastore _ (pc := 40) dX11_nextPlacing_40 (by first | rfl | (apply zL_ar1 <;> assumption) | (apply zL_ar2 <;> assumption) | (apply zR_ar1 <;> assumption) | (apply zR_ar2 <;> assumption) | (apply zR_ar3 <;> assumption) | (apply zR_ar4 <;> assumption)) (by first | rfl | (apply zL_jn <;> first | assumption | decide) | (apply zR_jn <;> first | assumption | decide)) rfl (by first | assumption | omega) ?_
            refine go_aload_n (i := 0) (pc := 41) dX11_nextPlacing_41 rfl rfl ?_
            refine go_getr2 fl_X11_91 (pc := 42) dX11_nextPlacing_42 (by first | rfl | (apply zL_ci <;> assumption) | (apply zR_ci <;> assumption)) (by first | rfl | (apply zL_in <;> first | assumption | decide) | (apply zR_in <;> first | assumption | decide)) (by first | rfl | (apply zL_fr0 <;> assumption) | (apply zL_fr1 <;> assumption) | (apply zR_fr0 <;> assumption) | (apply zR_fr1 <;> assumption) | (apply zR_fr2 <;> assumption) | (apply zR_fr3 <;> assumption)) ?_
            refine go_iload_n (i := 2) (pc := 45) dX11_nextPlacing_45 rfl rfl ?_
            refine go_iconst (nI 1) (pc := 46) dX11_nextPlacing_46 (by decide) ?_
            first | with_reducible refine go_isubN (pc := 47) dX11_nextPlacing_47 (by omega) ?_ | refine go_isub (pc := 47) dX11_nextPlacing_47 ?_
            refine go_dup2 (pc := 48) dX11_nextPlacing_48 rfl rfl ?_
            refine go_iaload (f - 1) (pc := 49) dX11_nextPlacing_49 rfl rfl rfl (by omega) ?_
            rw [uA_s, upd_at, if_neg (by omega), (hp0 (f - 1) (by omega)).1]
            refine go_iconst (nI 1) (pc := 50) dX11_nextPlacing_50 (by decide) ?_
            first | with_reducible refine go_iaddN (pc := 51) dX11_nextPlacing_51 ?_ | refine go_iadd (pc := 51) dX11_nextPlacing_51 ?_
            refine go_iastore (f - 1) (pc := 52) dX11_nextPlacing_52 rfl rfl rfl (by omega) ?_
            refine go_aload_n (i := 0) (pc := 53) dX11_nextPlacing_53 rfl rfl ?_
            refine go_getr2 fl_X11_91 (pc := 54) dX11_nextPlacing_54 (by first | rfl | (apply zL_ci <;> assumption) | (apply zR_ci <;> assumption)) (by first | rfl | (apply zL_in <;> first | assumption | decide) | (apply zR_in <;> first | assumption | decide)) (by first | rfl | (apply zL_fr0 <;> assumption) | (apply zL_fr1 <;> assumption) | (apply zR_fr0 <;> assumption) | (apply zR_fr1 <;> assumption) | (apply zR_fr2 <;> assumption) | (apply zR_fr3 <;> assumption)) ?_
            refine go_iload_n (i := 1) (pc := 57) dX11_nextPlacing_57 rfl rfl ?_
            refine go_iload_n (i := 3) (pc := 58) dX11_nextPlacing_58 rfl rfl ?_
            refine go_iconst (nI 1) (pc := 59) dX11_nextPlacing_59 (by decide) ?_
            first | with_reducible refine go_isubN (pc := 60) dX11_nextPlacing_60 (by omega) ?_ | refine go_isub (pc := 60) dX11_nextPlacing_60 ?_
            refine go_iastore _ (pc := 61) dX11_nextPlacing_61 (by first | rfl | (apply zL_ar1 <;> assumption) | (apply zL_ar2 <;> assumption) | (apply zR_ar1 <;> assumption) | (apply zR_ar2 <;> assumption) | (apply zR_ar3 <;> assumption) | (apply zR_ar4 <;> assumption)) (by first | rfl | (apply zL_jn <;> first | assumption | decide) | (apply zR_jn <;> first | assumption | decide)) rfl (by first | assumption | omega) ?_
            refine go_iconst (nI 1) (pc := 62) dX11_nextPlacing_62 (by decide) ?_
            refine go_zreturn (pc := 63) dX11_nextPlacing_63 rfl rfl ?_
            have e0 : ¬ frm p l = 0 := by omega
            have en : nxP l p = some (va_up (va_up (va_up p f 0) (f - 1) (p (f - 1) + 1)) l (p f - 1)) := by unfold nxP; rw [if_neg e0, hfr]
            rw [en]
            refine ⟨rfl, fun i hi => ?_, ((FrG.rf.uA (by simp)).uA (by simp)).uA (by simp)⟩
            rw [uA_s, upd_at, va_at']
            split
            · rfl
            · rw [uA_s, upd_at, va_at']
              split
              · rfl
              · rw [uA_s, upd_at, va_at']
                split
                · rfl
                · exact (hp0 i hi).1)
        · first | rw [zb_0d] at h22 | rw [zn_gt0 (by omega)] at h22 | rw [zi_gt0] at h22
          try (exfalso; omega)
          all_goals (
            refine go_iconst (nI 0) (pc := 25) dX11_nextPlacing_25 (by decide) ?_
            refine go_zreturn (pc := 26) dX11_nextPlacing_26 rfl rfl ?_
            have e0 : frm p l = 0 := by omega
            have en : nxP l p = none := by unfold nxP; rw [if_pos e0]
            rw [en]
            exact ⟨rfl, rfl⟩)
      · first | rw [zb_0d] at h3 | rw [zn_le0 (by omega)] at h3 | rw [zi_le0] at h3
        refine go_aload_n (i := 0) (pc := 6) dX11_nextPlacing_6 rfl rfl ?_
        refine go_getr2 fl_X11_91 (pc := 7) dX11_nextPlacing_7 (by first | rfl | (apply zL_ci <;> assumption) | (apply zR_ci <;> assumption)) (by first | rfl | (apply zL_in <;> first | assumption | decide) | (apply zR_in <;> first | assumption | decide)) (by first | rfl | (apply zL_fr0 <;> assumption) | (apply zL_fr1 <;> assumption) | (apply zR_fr0 <;> assumption) | (apply zR_fr1 <;> assumption) | (apply zR_fr2 <;> assumption) | (apply zR_fr3 <;> assumption)) ?_
        refine go_iload_n (i := 2) (pc := 10) dX11_nextPlacing_10 rfl rfl ?_
        refine go_iaload _ (pc := 11) dX11_nextPlacing_11 (by first | rfl | (apply zL_ar1 <;> assumption) | (apply zL_ar2 <;> assumption) | (apply zR_ar1 <;> assumption) | (apply zR_ar2 <;> assumption) | (apply zR_ar3 <;> assumption) | (apply zR_ar4 <;> assumption)) (by first | rfl | (apply zL_jn <;> first | assumption | decide) | (apply zR_jn <;> first | assumption | decide)) rfl (by first | assumption | omega) ?_
        rw [(hp0 f (by omega)).1]
        have hq9 := (hp0 f (by omega)).2
        refine go_if_ne 21 (pc := 12) dX11_nextPlacing_12 (by decide) (fun h12 => ?_) (fun h12 => ?_)
        · first | rw [zb_0d] at h12 | rw [zn_eq0 (by omega)] at h12 | rw [zi_eq0] at h12
          have hfr : frm p l = f := by rw [hfq, show f = f - 1 + 1 by omega, frm, if_neg (by rw [show f - 1 + 1 = f by omega]; omega)]
          refine go_iload_n (i := 2) (pc := 21) dX11_nextPlacing_21 rfl rfl ?_
          refine go_if_gt 27 (pc := 22) dX11_nextPlacing_22 (by decide) (fun h22 => ?_) (fun h22 => ?_)
          · first | rw [zb_0d] at h22 | rw [zn_gt0 (by omega)] at h22 | rw [zi_gt0] at h22
            try (exfalso; omega)
            all_goals (
              refine go_aload_n (i := 0) (pc := 27) dX11_nextPlacing_27 rfl rfl ?_
              refine go_getr2 fl_X11_91 (pc := 28) dX11_nextPlacing_28 (by first | rfl | (apply zL_ci <;> assumption) | (apply zR_ci <;> assumption)) (by first | rfl | (apply zL_in <;> first | assumption | decide) | (apply zR_in <;> first | assumption | decide)) (by first | rfl | (apply zL_fr0 <;> assumption) | (apply zL_fr1 <;> assumption) | (apply zR_fr0 <;> assumption) | (apply zR_fr1 <;> assumption) | (apply zR_fr2 <;> assumption) | (apply zR_fr3 <;> assumption)) ?_
              refine go_iload_n (i := 2) (pc := 31) dX11_nextPlacing_31 rfl rfl ?_
              refine go_iaload _ (pc := 32) dX11_nextPlacing_32 (by first | rfl | (apply zL_ar1 <;> assumption) | (apply zL_ar2 <;> assumption) | (apply zR_ar1 <;> assumption) | (apply zR_ar2 <;> assumption) | (apply zR_ar3 <;> assumption) | (apply zR_ar4 <;> assumption)) (by first | rfl | (apply zL_jn <;> first | assumption | decide) | (apply zR_jn <;> first | assumption | decide)) rfl (by first | assumption | omega) ?_
              rw [(hp0 f (by omega)).1]
              refine go_istore_n (i := 3) (pc := 33) dX11_nextPlacing_33 rfl (by decide) ?_
              refine go_aload_n (i := 0) (pc := 34) dX11_nextPlacing_34 rfl rfl ?_
              refine go_getr2 fl_X11_91 (pc := 35) dX11_nextPlacing_35 (by first | rfl | (apply zL_ci <;> assumption) | (apply zR_ci <;> assumption)) (by first | rfl | (apply zL_in <;> first | assumption | decide) | (apply zR_in <;> first | assumption | decide)) (by first | rfl | (apply zL_fr0 <;> assumption) | (apply zL_fr1 <;> assumption) | (apply zR_fr0 <;> assumption) | (apply zR_fr1 <;> assumption) | (apply zR_fr2 <;> assumption) | (apply zR_fr3 <;> assumption)) ?_
              refine go_iload_n (i := 2) (pc := 38) dX11_nextPlacing_38 rfl rfl ?_
              refine go_iconst (nI 0) (pc := 39) dX11_nextPlacing_39 (by decide) ?_
              refine go_iastore _ (pc := 40) dX11_nextPlacing_40 (by first | rfl | (apply zL_ar1 <;> assumption) | (apply zL_ar2 <;> assumption) | (apply zR_ar1 <;> assumption) | (apply zR_ar2 <;> assumption) | (apply zR_ar3 <;> assumption) | (apply zR_ar4 <;> assumption)) (by first | rfl | (apply zL_jn <;> first | assumption | decide) | (apply zR_jn <;> first | assumption | decide)) rfl (by first | assumption | omega) ?_
              refine go_aload_n (i := 0) (pc := 41) dX11_nextPlacing_41 rfl rfl ?_
              refine go_getr2 fl_X11_91 (pc := 42) dX11_nextPlacing_42 (by first | rfl | (apply zL_ci <;> assumption) | (apply zR_ci <;> assumption)) (by first | rfl | (apply zL_in <;> first | assumption | decide) | (apply zR_in <;> first | assumption | decide)) (by first | rfl | (apply zL_fr0 <;> assumption) | (apply zL_fr1 <;> assumption) | (apply zR_fr0 <;> assumption) | (apply zR_fr1 <;> assumption) | (apply zR_fr2 <;> assumption) | (apply zR_fr3 <;> assumption)) ?_
              refine go_iload_n (i := 2) (pc := 45) dX11_nextPlacing_45 rfl rfl ?_
              refine go_iconst (nI 1) (pc := 46) dX11_nextPlacing_46 (by decide) ?_
              first | with_reducible refine go_isubN (pc := 47) dX11_nextPlacing_47 (by omega) ?_ | refine go_isub (pc := 47) dX11_nextPlacing_47 ?_
              refine go_dup2 (pc := 48) dX11_nextPlacing_48 rfl rfl ?_
              refine go_iaload (f - 1) (pc := 49) dX11_nextPlacing_49 rfl rfl rfl (by omega) ?_
              rw [uA_s, upd_at, if_neg (by omega), (hp0 (f - 1) (by omega)).1]
              refine go_iconst (nI 1) (pc := 50) dX11_nextPlacing_50 (by decide) ?_
              first | with_reducible refine go_iaddN (pc := 51) dX11_nextPlacing_51 ?_ | refine go_iadd (pc := 51) dX11_nextPlacing_51 ?_
              refine go_iastore (f - 1) (pc := 52) dX11_nextPlacing_52 rfl rfl rfl (by omega) ?_
              refine go_aload_n (i := 0) (pc := 53) dX11_nextPlacing_53 rfl rfl ?_
              refine go_getr2 fl_X11_91 (pc := 54) dX11_nextPlacing_54 (by first | rfl | (apply zL_ci <;> assumption) | (apply zR_ci <;> assumption)) (by first | rfl | (apply zL_in <;> first | assumption | decide) | (apply zR_in <;> first | assumption | decide)) (by first | rfl | (apply zL_fr0 <;> assumption) | (apply zL_fr1 <;> assumption) | (apply zR_fr0 <;> assumption) | (apply zR_fr1 <;> assumption) | (apply zR_fr2 <;> assumption) | (apply zR_fr3 <;> assumption)) ?_
              refine go_iload_n (i := 1) (pc := 57) dX11_nextPlacing_57 rfl rfl ?_
              refine go_iload_n (i := 3) (pc := 58) dX11_nextPlacing_58 rfl rfl ?_
              refine go_iconst (nI 1) (pc := 59) dX11_nextPlacing_59 (by decide) ?_
              first | with_reducible refine go_isubN (pc := 60) dX11_nextPlacing_60 (by omega) ?_ | refine go_isub (pc := 60) dX11_nextPlacing_60 ?_
              refine go_iastore _ (pc := 61) dX11_nextPlacing_61 (by first | rfl | (apply zL_ar1 <;> assumption) | (apply zL_ar2 <;> assumption) | (apply zR_ar1 <;> assumption) | (apply zR_ar2 <;> assumption) | (apply zR_ar3 <;> assumption) | (apply zR_ar4 <;> assumption)) (by first | rfl | (apply zL_jn <;> first | assumption | decide) | (apply zR_jn <;> first | assumption | decide)) rfl (by first | assumption | omega) ?_
              refine go_iconst (nI 1) (pc := 62) dX11_nextPlacing_62 (by decide) ?_
              refine go_zreturn (pc := 63) dX11_nextPlacing_63 rfl rfl ?_
              have e0 : ¬ frm p l = 0 := by omega
              have en : nxP l p = some (va_up (va_up (va_up p f 0) (f - 1) (p (f - 1) + 1)) l (p f - 1)) := by unfold nxP; rw [if_neg e0, hfr]
              rw [en]
              refine ⟨rfl, fun i hi => ?_, ((FrG.rf.uA (by simp)).uA (by simp)).uA (by simp)⟩
              rw [uA_s, upd_at, va_at']
              split
              · rfl
              · rw [uA_s, upd_at, va_at']
                split
                · rfl
                · rw [uA_s, upd_at, va_at']
                  split
                  · rfl
                  · exact (hp0 i hi).1)
          · first | rw [zb_0d] at h22 | rw [zn_gt0 (by omega)] at h22 | rw [zi_gt0] at h22
            try (exfalso; omega)
            all_goals (
              refine go_iconst (nI 0) (pc := 25) dX11_nextPlacing_25 (by decide) ?_
              refine go_zreturn (pc := 26) dX11_nextPlacing_26 rfl rfl ?_
              have e0 : frm p l = 0 := by omega
              have en : nxP l p = none := by unfold nxP; rw [if_pos e0]
              rw [en]
              exact ⟨rfl, rfl⟩)
        · first | rw [zb_0d] at h12 | rw [zn_eq0 (by omega)] at h12 | rw [zi_eq0] at h12
          have hf2 : frm p l = frm p (f - 1) := by rw [hfq, show f = f - 1 + 1 by omega, frm, if_pos (by rw [show f - 1 + 1 = f by omega]; omega), show f - 1 + 1 - 1 = f - 1 by omega]
          refine go_iinc (nI (f - 1)) (pc := 15) dX11_nextPlacing_15 rfl (by rw [show f = f - 1 + 1 by omega]; exact pk_m1 _) (by decide) ?_
          refine go_goto 2 (pc := 18) dX11_nextPlacing_18 (by decide) ?_
          exact ih (f - 1) (by omega) (by omega) hf2
  refine go_iload_n (i := 1) (pc := 0) dX11_nextPlacing_0 rfl rfl ?_
  refine go_istore_n (i := 2) (pc := 1) dX11_nextPlacing_1 rfl (by decide) ?_
  exact loop l (Nat.le_refl _) rfl

/-- all placings of k men, one behind the other -/
def fstP (n m k : Nat) (p : Nat → Nat) : Nat → Nat := fun i => if i < m then p i else if i + 1 = n then k else 0
theorem prod_eta {α β : Type} (x : α × β) : x = (x.1, x.2) := rfl
def btC (V : zV) (ρ : Nat → Nat) (k J : Nat) : (Nat → Nat) × (Nat × (Nat → Nat)) := runC (vN V) (lpl V ρ) (vN V - 1) J (fstP (vN V) 0 k (fun _ => 0)) (1000000, fun _ => 0)
theorem sum_le_at {n k i : Nat} {p : Nat → Nat} (h : sumN n p = k) (hi : i < n) : p i ≤ k := by
  have := sumN_get (g := p) hi
  omega
theorem fstP_sum {n k : Nat} (h : 1 ≤ n) : sumN n (fstP n 0 k (fun _ => 0)) = k := by
  have e : ∀ m, m < n → sumN m (fstP n 0 k (fun _ => 0)) = 0 := by
    intro m
    induction m with
    | zero => intro _; rfl
    | succ m ih => intro hm; rw [sumN, ih (by omega)]; unfold fstP; rw [if_neg (by omega), if_neg (by omega)]
  obtain ⟨q, rfl⟩ : ∃ q, n = q + 1 := ⟨n - 1, by omega⟩
  rw [sumN, e q (by omega)]
  unfold fstP
  rw [if_neg (by omega), if_pos rfl, Nat.zero_add]

theorem plc_ok {n : Nat} {p ρ : Nat → Nat} (h : RowOK n ρ) (hp : ∀ i, i < n → p i ≤ 9) : RowOK n (plc p n ρ) := by
  obtain ⟨h1, h2, h3, h4, h5, h6, h7, h8⟩ := h
  refine ⟨h1, h2, fun j hj => ?_, ?_, ?_, ?_, ?_, ?_⟩
  · unfold plc; split; exact hp _ (by omega); exact h3 j hj
  all_goals (unfold plc; rw [if_neg (by omega)]; assumption)

set_option maxRecDepth 4000 in
theorem c_X11_beats {E : zE} {σ : zT} {tx : Nat × (Nat → Nat)} {bd : Nat × (Nat → Nat) × (Nat → Nat)} {sk : Nat × (Nat → Nat)} {tw : Nat × (Nat → Nat) × (Nat → Nat)} {xs : List Nat} {ld : Nat × (Nat → Nat)} {pa sh : Nat × (Nat → Nat → Nat)} {ru : Nat × (Nat → Nat) × (Nat → Nat)} {to : Nat × (Nat → Int64)} {k : Int32} {J : Nat} (hC : ClsIs σ tx bd sk tw xs ld pa sh ru to) (hJ : J < 99999) (hfin : in0 k 4 → nxP (ld.1 - 1) (btC (vOf bd sk xs ld.1) ld.2 k.toInt.toNat J).1 = none) : CalM E 6 yX11_beats cX11_beats 7 (some .int) [.ref (zA E 0 0), .int k] σ (fun r σ' => r = some (.int (if in0 k 4 then nI (btC (vOf bd sk xs ld.1) ld.2 k.toInt.toNat J).2.1 else -1)) ∧ ClsIs σ' tx bd sk tw xs ld pa sh ru (if in0 k 4 then toB ld.1 to (btC (vOf bd sk xs ld.1) ld.2 k.toInt.toNat J).2 else to) ∧ Fr33 σ σ') := by
  refine cal_of_go (own := RX11) rfl (by decide +kernel) (Nat.le_of_ble_eq_true rfl) ?_
  have hL := hC.2.2.2.2.2.1
  have hn := hL.b
  have hok := hL.1
  have hB0 := hC.2.2.1
  have hnc := hB0.1
  obtain ⟨kr0, hkr0, hz0, hR140, hW0⟩ := hC.w (kl := 6) rfl hL
  have hV := hW0.vok
  have main : ∀ (k1 : Nat) (fp : Nat → Nat) (fs : Nat × (Nat → Nat)), k1 ≤ 4 → nxP (ld.1 - 1) fp = none → runC ld.1 (lpl (vOf bd sk xs ld.1) ld.2) (ld.1 - 1) J (fstP ld.1 0 k1 (fun _ => 0)) (1000000, fun _ => 0) = (fp, fs) → GoM E 6 RX11 cX11_beats 7 (some .int) (fun r σ' => r = some (.int (nI fs.1)) ∧ ClsIs σ' tx bd sk tw xs ld pa sh ru (toB ld.1 to fs) ∧ Fr33 σ σ') σ 11 [(0, .ref (zA E 0 0)), (1, .int (nI k1))] [] := by
    intro k1 fp fs hk1 hfp hrun
    have stop0 : ∀ (st : Nat × (Nat → Nat)) (t : Nat) (τ : zT), t < 2 ^ 30 → st = fs → ClsIs τ tx bd sk tw xs ld pa sh ru (toB ld.1 to st) → Fr33 σ τ → GoM E 6 RX11 cX11_beats 7 (some .int) (fun r σ' => r = some (.int (nI fs.1)) ∧ ClsIs σ' tx bd sk tw xs ld pa sh ru (toB ld.1 to fs) ∧ Fr33 σ σ') τ 60 [(0, .ref (zA E 0 0)), (1, .int (nI k1)), (2, .int (nI (ld.1 - 1))), (3, .int (nI st.1)), (4, .int (nI 0)), (5, .int (nI (t)))] [] := by
      intro st t τ ht hst hCt hF
      refine go_iload (pc := 60) dX11_beats_60 rfl ?_
      refine go_ldcw (100000) kc_X11_327 (pc := 62) dX11_beats_62 ?_
      rw [show (100000 : Int32) = nI 100000 from rfl]
      refine go_icmp_ge 119 (pc := 65) dX11_beats_65 (by decide) (fun h65 => ?_) (fun h65 => ?_)
      · first | rw [nI_leI (by omega) (by omega)] at h65 | rw [zi_leN (by omega)] at h65 | rw [zi_Nle (by omega)] at h65 | rw [zi_le] at h65
        refine go_iload_n (i := 3) (pc := 119) dX11_beats_119 rfl rfl ?_
        refine go_ireturn (pc := 120) dX11_beats_120 rfl ?_
        rw [← hst]
        exact ⟨rfl, hCt, hF⟩
      · first | rw [nI_leI (by omega) (by omega)] at h65 | rw [zi_leN (by omega)] at h65 | rw [zi_Nle (by omega)] at h65 | rw [zi_le] at h65
        refine go_iload (pc := 68) dX11_beats_68 rfl ?_
        refine go_if_eq 119 (pc := 70) dX11_beats_70 (by decide) (fun h70 => ?_) (fun h70 => ?_)
        · refine go_iload_n (i := 3) (pc := 119) dX11_beats_119 rfl rfl ?_
          refine go_ireturn (pc := 120) dX11_beats_120 rfl ?_
          rw [← hst]
          exact ⟨rfl, hCt, hF⟩
        · exact absurd rfl h70
    have loop : ∀ (j : Nat) (t : Nat) (p : Nat → Nat) (st : Nat × (Nat → Nat)) (τ : zT), t + j < 99999 → st.1 ≤ 1000000 → sumN ld.1 p = k1 → runC ld.1 (lpl (vOf bd sk xs ld.1) ld.2) (ld.1 - 1) j p st = (fp, fs) → (∀ i, i < ld.1 → τ.2.1 0 2 i = nI (p i)) → ClsIs τ tx bd sk tw xs ld pa sh ru (toB ld.1 to st) → Fr33 σ τ → GoM E 6 RX11 cX11_beats 7 (some .int) (fun r σ' => r = some (.int (nI fs.1)) ∧ ClsIs σ' tx bd sk tw xs ld pa sh ru (toB ld.1 to fs) ∧ Fr33 σ σ') τ 60 [(0, .ref (zA E 0 0)), (1, .int (nI k1)), (2, .int (nI (ld.1 - 1))), (3, .int (nI st.1)), (4, .int (nI 1)), (5, .int (nI (t)))] [] := by
      intro j
      induction j with
      | zero =>
        intro t p st τ htj hst hsum hr hrow hCt hF
        have hp0 : ∀ i, i < ld.1 → τ.2.1 0 2 i = nI (p i) ∧ p i ≤ 9 := fun i hi => ⟨hrow i hi, by have := sum_le_at hsum hi; omega⟩
        have hnx : nxP (ld.1 - 1) p = none := by have e := congrArg Prod.fst hr; dsimp only [runC] at e; rw [e]; exact hfp
        have hfs : evp ld.1 (lpl (vOf bd sk xs ld.1) ld.2) p st = fs := congrArg Prod.snd hr
        refine go_iload (pc := 60) dX11_beats_60 rfl ?_
        refine go_ldcw (100000) kc_X11_327 (pc := 62) dX11_beats_62 ?_
        rw [show (100000 : Int32) = nI 100000 from rfl]
        refine go_icmp_ge 119 (pc := 65) dX11_beats_65 (by decide) (fun h65 => ?_) (fun h65 => ?_)
        · first | rw [nI_leI (by omega) (by omega)] at h65 | rw [zi_leN (by omega)] at h65 | rw [zi_Nle (by omega)] at h65 | rw [zi_le] at h65
          exfalso
          omega
        · first | rw [nI_leI (by omega) (by omega)] at h65 | rw [zi_leN (by omega)] at h65 | rw [zi_Nle (by omega)] at h65 | rw [zi_le] at h65
          refine go_iload (pc := 68) dX11_beats_68 rfl ?_
          refine go_if_eq 119 (pc := 70) dX11_beats_70 (by decide) (fun h70 => ?_) (fun h70 => ?_)
          · exact absurd h70 (by decide)
          · refine go_iload_n (i := 3) (pc := 73) dX11_beats_73 rfl rfl ?_
            refine go_if_le 119 (pc := 74) dX11_beats_74 (by decide) (fun h74 => ?_) (fun h74 => ?_)
            · first | rw [zb_0d] at h74 | rw [zn_le0 (by omega)] at h74 | rw [zi_le0] at h74
              have h0 : st = (0, st.2) := Prod.ext (by show st.1 = 0; omega) rfl
              have hst2 : st = fs := by
                have e := runC_0 (n := ld.1) (L := lpl (vOf bd sk xs ld.1) ld.2) (l := ld.1 - 1) (w := st.2) 0 p
                rw [← h0, hr] at e
                exact e.symm
              refine go_iload_n (i := 3) (pc := 119) dX11_beats_119 rfl rfl ?_
              refine go_ireturn (pc := 120) dX11_beats_120 rfl ?_
              rw [← hst2]
              exact ⟨rfl, hCt, hF⟩
            · first | rw [zb_0d] at h74 | rw [zn_le0 (by omega)] at h74 | rw [zi_le0] at h74
              refine go_aload_n (i := 0) (pc := 77) dX11_beats_77 rfl rfl ?_
              refine go_callV ml_X11_328 mt_X11_loadsPlaced (pc := 78) dX11_beats_78 (c_X11_loadsPlaced hCt hp0) (by first | rfl | (apply zL_cq <;> assumption) | (apply zR_cq <;> assumption)) rfl (by first | rfl | (apply zL_in <;> first | assumption | decide) | (apply zR_in <;> first | assumption | decide)) (by decide) (by decide) rfl rfl (Nat.le_of_ble_eq_true rfl) (fun r σ' hp => ?_)
              obtain ⟨rfl, hC2, hF2, h02⟩ := hp
              dsimp only [zRet]
              have hF3 := hF.tr hF2
              have hp2 : ∀ i, i < ld.1 → σ'.2.1 0 2 i = nI (p i) ∧ p i ≤ 9 := fun i hi => by rw [h02]; exact hp0 i hi
              have hlb : lpl (vOf bd sk xs ld.1) ld.2 p ≤ 72 := Nat.le_trans (crs_ok (st := 0) hV (plc_ok hok (fun i hi => (hp0 i hi).2)) bd.1 (Nat.le_refl _)).2.2.1 (by omega)
              refine go_istore (pc := 81) dX11_beats_81 (by decide) ?_
              refine go_iload (pc := 83) dX11_beats_83 rfl ?_
              refine go_iload_n (i := 3) (pc := 85) dX11_beats_85 rfl rfl ?_
              refine go_icmp_ge 106 (pc := 86) dX11_beats_86 (by decide) (fun h86 => ?_) (fun h86 => ?_)
              · first | rw [nI_leI (by omega) (by omega)] at h86 | rw [zi_leN (by omega)] at h86 | rw [zi_Nle (by omega)] at h86 | rw [zi_le] at h86
                have es : evp ld.1 (lpl (vOf bd sk xs ld.1) ld.2) p st = st := by unfold evp; rw [if_neg (by omega)]
                have e1 : nI st.1 = nI (evp ld.1 (lpl (vOf bd sk xs ld.1) ld.2) p st).1 := by rw [es]
                have hC3 := hC2
                have hF4 := hF3
                rw [← es] at hC3
                rw [e1]
                have hp3 : ∀ i, i ≤ ld.1 - 1 → σ'.2.1 0 2 i = nI (p i) ∧ p i ≤ 9 := fun i hi => hp2 i (by omega)
                have hst3 : (evp ld.1 (lpl (vOf bd sk xs ld.1) ld.2) p st).1 ≤ 1000000 := by rw [es]; exact hst
                refine go_aload_n (i := 0) (pc := 106) dX11_beats_106 rfl rfl ?_
                refine go_iload_n (i := 2) (pc := 107) dX11_beats_107 rfl rfl ?_
                refine go_callV ml_X11_334 mt_X11_nextPlacing (pc := 108) dX11_beats_108 (c_X11_nextPlacing (by omega) hp3) (by first | rfl | (apply zL_cq <;> assumption) | (apply zR_cq <;> assumption)) rfl (by first | rfl | (apply zL_in <;> first | assumption | decide) | (apply zR_in <;> first | assumption | decide)) (by decide) (by decide) rfl rfl (Nat.le_of_ble_eq_true rfl) (fun r σ' hp => ?_)
                obtain ⟨rfl, hp⟩ := hp
                dsimp only [zRet]
                rw [hnx] at hp
                rw [hnx]
                dsimp only at hp
                subst hp
                refine go_istore (pc := 111) dX11_beats_111 (by decide) ?_
                refine go_iincN (pc := 113) dX11_beats_113 rfl (by decide) ?_
                refine go_goto 60 (pc := 116) dX11_beats_116 (by decide) ?_
                refine go_drop [0, 1, 2, 3, 4, 5] rfl ?_
                exact stop0 _ (t + 1) _ (by omega) hfs hC3 hF4
              · first | rw [nI_leI (by omega) (by omega)] at h86 | rw [zi_leN (by omega)] at h86 | rw [zi_Nle (by omega)] at h86 | rw [zi_le] at h86
                refine go_iload (pc := 89) dX11_beats_89 rfl ?_
                refine go_istore_n (i := 3) (pc := 91) dX11_beats_91 rfl (by decide) ?_
                refine go_aload_n (i := 0) (pc := 92) dX11_beats_92 rfl rfl ?_
                refine go_getr2 fl_X11_83 (pc := 93) dX11_beats_93 (by first | rfl | (apply zL_ci <;> assumption) | (apply zR_ci <;> assumption)) (by first | rfl | (apply zL_in <;> first | assumption | decide) | (apply zR_in <;> first | assumption | decide)) (by first | rfl | (apply zL_fr0 <;> assumption) | (apply zL_fr1 <;> assumption) | (apply zR_fr0 <;> assumption) | (apply zR_fr1 <;> assumption) | (apply zR_fr2 <;> assumption) | (apply zR_fr3 <;> assumption)) ?_
                refine go_aload_n (i := 0) (pc := 96) dX11_beats_96 rfl rfl ?_
                refine go_getr2 fl_X11_91 (pc := 97) dX11_beats_97 (by first | rfl | (apply zL_ci <;> assumption) | (apply zR_ci <;> assumption)) (by first | rfl | (apply zL_in <;> first | assumption | decide) | (apply zR_in <;> first | assumption | decide)) (by first | rfl | (apply zL_fr0 <;> assumption) | (apply zL_fr1 <;> assumption) | (apply zR_fr0 <;> assumption) | (apply zR_fr1 <;> assumption) | (apply zR_fr2 <;> assumption) | (apply zR_fr3 <;> assumption)) ?_
                refine go_iload_n (i := 2) (pc := 100) dX11_beats_100 rfl rfl ?_
                refine go_iconst (nI 1) (pc := 101) dX11_beats_101 (by decide) ?_
                first | with_reducible refine go_iaddN (pc := 102) dX11_beats_102 ?_ | refine go_iadd (pc := 102) dX11_beats_102 ?_
                refine go_callV ml_X11_331 mt_X9_these (pc := 103) dX11_beats_103 (c_X9_these (by omega) (fun i hi => hp2 i (by omega))) (by first | rfl | (apply zL_cq <;> assumption) | (apply zR_cq <;> assumption)) rfl (by first | rfl | (apply zL_in <;> first | assumption | decide) | (apply zR_in <;> first | assumption | decide)) (by decide) (by decide) rfl rfl (Nat.le_of_ble_eq_true rfl) (fun r σ' hp => ?_)
                obtain ⟨rfl, hT4, hf4⟩ := hp
                dsimp only [zRet]
                rw [show ld.1 - 1 + 1 = ld.1 by omega] at hT4
                have hC3 := hC2.setTo (to' := (ld.1, fun i => lN (cut ld.1 p i))) hf4 hT4
                have hF4 := hF3.tr (Fr33.of hf4 (by simp))
                have es : evp ld.1 (lpl (vOf bd sk xs ld.1) ld.2) p st = (lpl (vOf bd sk xs ld.1) ld.2 p, cut ld.1 p) := by unfold evp; rw [if_pos (by omega)]
                have e1 : nI (lpl (vOf bd sk xs ld.1) ld.2 p) = nI (evp ld.1 (lpl (vOf bd sk xs ld.1) ld.2) p st).1 := by rw [es]
                have et : toB ld.1 to (evp ld.1 (lpl (vOf bd sk xs ld.1) ld.2) p st) = (ld.1, fun i => lN (cut ld.1 p i)) := by rw [es]; unfold toB; exact if_neg (by dsimp only; omega)
                rw [← et] at hC3
                rw [e1]
                have hp3 : ∀ i, i ≤ ld.1 - 1 → σ'.2.1 0 2 i = nI (p i) ∧ p i ≤ 9 := fun i hi => by rw [(hf4.1 0 (by simp)).2.1]; exact hp2 i (by omega)
                have hst3 : (evp ld.1 (lpl (vOf bd sk xs ld.1) ld.2) p st).1 ≤ 1000000 := by rw [es]; dsimp only; omega
                refine go_aload_n (i := 0) (pc := 106) dX11_beats_106 rfl rfl ?_
                refine go_iload_n (i := 2) (pc := 107) dX11_beats_107 rfl rfl ?_
                refine go_callV ml_X11_334 mt_X11_nextPlacing (pc := 108) dX11_beats_108 (c_X11_nextPlacing (by omega) hp3) (by first | rfl | (apply zL_cq <;> assumption) | (apply zR_cq <;> assumption)) rfl (by first | rfl | (apply zL_in <;> first | assumption | decide) | (apply zR_in <;> first | assumption | decide)) (by decide) (by decide) rfl rfl (Nat.le_of_ble_eq_true rfl) (fun r σ' hp => ?_)
                obtain ⟨rfl, hp⟩ := hp
                dsimp only [zRet]
                rw [hnx] at hp
                rw [hnx]
                dsimp only at hp
                subst hp
                refine go_istore (pc := 111) dX11_beats_111 (by decide) ?_
                refine go_iincN (pc := 113) dX11_beats_113 rfl (by decide) ?_
                refine go_goto 60 (pc := 116) dX11_beats_116 (by decide) ?_
                refine go_drop [0, 1, 2, 3, 4, 5] rfl ?_
                exact stop0 _ (t + 1) _ (by omega) hfs hC3 hF4
      | succ j ih =>
        intro t p st τ htj hst hsum hr hrow hCt hF
        have hp0 : ∀ i, i < ld.1 → τ.2.1 0 2 i = nI (p i) ∧ p i ≤ 9 := fun i hi => ⟨hrow i hi, by have := sum_le_at hsum hi; omega⟩
        refine go_iload (pc := 60) dX11_beats_60 rfl ?_
        refine go_ldcw (100000) kc_X11_327 (pc := 62) dX11_beats_62 ?_
        rw [show (100000 : Int32) = nI 100000 from rfl]
        refine go_icmp_ge 119 (pc := 65) dX11_beats_65 (by decide) (fun h65 => ?_) (fun h65 => ?_)
        · first | rw [nI_leI (by omega) (by omega)] at h65 | rw [zi_leN (by omega)] at h65 | rw [zi_Nle (by omega)] at h65 | rw [zi_le] at h65
          exfalso
          omega
        · first | rw [nI_leI (by omega) (by omega)] at h65 | rw [zi_leN (by omega)] at h65 | rw [zi_Nle (by omega)] at h65 | rw [zi_le] at h65
          refine go_iload (pc := 68) dX11_beats_68 rfl ?_
          refine go_if_eq 119 (pc := 70) dX11_beats_70 (by decide) (fun h70 => ?_) (fun h70 => ?_)
          · exact absurd h70 (by decide)
          · refine go_iload_n (i := 3) (pc := 73) dX11_beats_73 rfl rfl ?_
            refine go_if_le 119 (pc := 74) dX11_beats_74 (by decide) (fun h74 => ?_) (fun h74 => ?_)
            · first | rw [zb_0d] at h74 | rw [zn_le0 (by omega)] at h74 | rw [zi_le0] at h74
              have h0 : st = (0, st.2) := Prod.ext (by show st.1 = 0; omega) rfl
              have hst2 : st = fs := by
                have e := runC_0 (n := ld.1) (L := lpl (vOf bd sk xs ld.1) ld.2) (l := ld.1 - 1) (w := st.2) (j + 1) p
                rw [← h0, hr] at e
                exact e.symm
              refine go_iload_n (i := 3) (pc := 119) dX11_beats_119 rfl rfl ?_
              refine go_ireturn (pc := 120) dX11_beats_120 rfl ?_
              rw [← hst2]
              exact ⟨rfl, hCt, hF⟩
            · first | rw [zb_0d] at h74 | rw [zn_le0 (by omega)] at h74 | rw [zi_le0] at h74
              refine go_aload_n (i := 0) (pc := 77) dX11_beats_77 rfl rfl ?_
              refine go_callV ml_X11_328 mt_X11_loadsPlaced (pc := 78) dX11_beats_78 (c_X11_loadsPlaced hCt hp0) (by first | rfl | (apply zL_cq <;> assumption) | (apply zR_cq <;> assumption)) rfl (by first | rfl | (apply zL_in <;> first | assumption | decide) | (apply zR_in <;> first | assumption | decide)) (by decide) (by decide) rfl rfl (Nat.le_of_ble_eq_true rfl) (fun r σ' hp => ?_)
              obtain ⟨rfl, hC2, hF2, h02⟩ := hp
              dsimp only [zRet]
              have hF3 := hF.tr hF2
              have hp2 : ∀ i, i < ld.1 → σ'.2.1 0 2 i = nI (p i) ∧ p i ≤ 9 := fun i hi => by rw [h02]; exact hp0 i hi
              have hlb : lpl (vOf bd sk xs ld.1) ld.2 p ≤ 72 := Nat.le_trans (crs_ok (st := 0) hV (plc_ok hok (fun i hi => (hp0 i hi).2)) bd.1 (Nat.le_refl _)).2.2.1 (by omega)
              refine go_istore (pc := 81) dX11_beats_81 (by decide) ?_
              refine go_iload (pc := 83) dX11_beats_83 rfl ?_
              refine go_iload_n (i := 3) (pc := 85) dX11_beats_85 rfl rfl ?_
              refine go_icmp_ge 106 (pc := 86) dX11_beats_86 (by decide) (fun h86 => ?_) (fun h86 => ?_)
              · first | rw [nI_leI (by omega) (by omega)] at h86 | rw [zi_leN (by omega)] at h86 | rw [zi_Nle (by omega)] at h86 | rw [zi_le] at h86
                have es : evp ld.1 (lpl (vOf bd sk xs ld.1) ld.2) p st = st := by unfold evp; rw [if_neg (by omega)]
                have e1 : nI st.1 = nI (evp ld.1 (lpl (vOf bd sk xs ld.1) ld.2) p st).1 := by rw [es]
                have hC3 := hC2
                have hF4 := hF3
                rw [← es] at hC3
                rw [e1]
                have hp3 : ∀ i, i ≤ ld.1 - 1 → σ'.2.1 0 2 i = nI (p i) ∧ p i ≤ 9 := fun i hi => hp2 i (by omega)
                have hst3 : (evp ld.1 (lpl (vOf bd sk xs ld.1) ld.2) p st).1 ≤ 1000000 := by rw [es]; exact hst
                refine go_aload_n (i := 0) (pc := 106) dX11_beats_106 rfl rfl ?_
                refine go_iload_n (i := 2) (pc := 107) dX11_beats_107 rfl rfl ?_
                refine go_callV ml_X11_334 mt_X11_nextPlacing (pc := 108) dX11_beats_108 (c_X11_nextPlacing (by omega) hp3) (by first | rfl | (apply zL_cq <;> assumption) | (apply zR_cq <;> assumption)) rfl (by first | rfl | (apply zL_in <;> first | assumption | decide) | (apply zR_in <;> first | assumption | decide)) (by decide) (by decide) rfl rfl (Nat.le_of_ble_eq_true rfl) (fun r σ' hp => ?_)
                obtain ⟨rfl, hp⟩ := hp
                dsimp only [zRet]
                refine go_istore (pc := 111) dX11_beats_111 (by decide) ?_
                refine go_iincN (pc := 113) dX11_beats_113 rfl (by decide) ?_
                refine go_goto 60 (pc := 116) dX11_beats_116 (by decide) ?_
                cases hnx : nxP (ld.1 - 1) p with
                | none =>
                  rw [hnx] at hp
                  dsimp only at hp
                  subst hp
                  have hfs : evp ld.1 (lpl (vOf bd sk xs ld.1) ld.2) p st = fs := by
                    have e := congrArg Prod.snd hr
                    rw [runC, hnx] at e
                    exact e
                  refine go_drop [0, 1, 2, 3, 4, 5] rfl ?_
                  exact stop0 _ (t + 1) _ (by omega) hfs hC3 hF4
                | some q =>
                  rw [hnx] at hp
                  dsimp only at hp
                  have hr2 : runC ld.1 (lpl (vOf bd sk xs ld.1) ld.2) (ld.1 - 1) j q (evp ld.1 (lpl (vOf bd sk xs ld.1) ld.2) p st) = (fp, fs) := by rw [← hr, runC, hnx]
                  have hsq : sumN ld.1 q = k1 := by
                    have e := nxP_sum hnx
                    rw [show ld.1 - 1 + 1 = ld.1 by omega] at e
                    rw [e]
                    exact hsum
                  refine go_drop [0, 1, 2, 3, 4, 5] rfl ?_
                  exact ih (t + 1) q _ _ (by omega) hst3 hsq hr2 (fun i hi => hp.1 i (by omega)) (hC3.fr hp.2 (by simp)) (hF4.tr (Fr33.of hp.2 (by simp)))
              · first | rw [nI_leI (by omega) (by omega)] at h86 | rw [zi_leN (by omega)] at h86 | rw [zi_Nle (by omega)] at h86 | rw [zi_le] at h86
                refine go_iload (pc := 89) dX11_beats_89 rfl ?_
                refine go_istore_n (i := 3) (pc := 91) dX11_beats_91 rfl (by decide) ?_
                refine go_aload_n (i := 0) (pc := 92) dX11_beats_92 rfl rfl ?_
                refine go_getr2 fl_X11_83 (pc := 93) dX11_beats_93 (by first | rfl | (apply zL_ci <;> assumption) | (apply zR_ci <;> assumption)) (by first | rfl | (apply zL_in <;> first | assumption | decide) | (apply zR_in <;> first | assumption | decide)) (by first | rfl | (apply zL_fr0 <;> assumption) | (apply zL_fr1 <;> assumption) | (apply zR_fr0 <;> assumption) | (apply zR_fr1 <;> assumption) | (apply zR_fr2 <;> assumption) | (apply zR_fr3 <;> assumption)) ?_
                refine go_aload_n (i := 0) (pc := 96) dX11_beats_96 rfl rfl ?_
                refine go_getr2 fl_X11_91 (pc := 97) dX11_beats_97 (by first | rfl | (apply zL_ci <;> assumption) | (apply zR_ci <;> assumption)) (by first | rfl | (apply zL_in <;> first | assumption | decide) | (apply zR_in <;> first | assumption | decide)) (by first | rfl | (apply zL_fr0 <;> assumption) | (apply zL_fr1 <;> assumption) | (apply zR_fr0 <;> assumption) | (apply zR_fr1 <;> assumption) | (apply zR_fr2 <;> assumption) | (apply zR_fr3 <;> assumption)) ?_
                refine go_iload_n (i := 2) (pc := 100) dX11_beats_100 rfl rfl ?_
                refine go_iconst (nI 1) (pc := 101) dX11_beats_101 (by decide) ?_
                first | with_reducible refine go_iaddN (pc := 102) dX11_beats_102 ?_ | refine go_iadd (pc := 102) dX11_beats_102 ?_
                refine go_callV ml_X11_331 mt_X9_these (pc := 103) dX11_beats_103 (c_X9_these (by omega) (fun i hi => hp2 i (by omega))) (by first | rfl | (apply zL_cq <;> assumption) | (apply zR_cq <;> assumption)) rfl (by first | rfl | (apply zL_in <;> first | assumption | decide) | (apply zR_in <;> first | assumption | decide)) (by decide) (by decide) rfl rfl (Nat.le_of_ble_eq_true rfl) (fun r σ' hp => ?_)
                obtain ⟨rfl, hT4, hf4⟩ := hp
                dsimp only [zRet]
                rw [show ld.1 - 1 + 1 = ld.1 by omega] at hT4
                have hC3 := hC2.setTo (to' := (ld.1, fun i => lN (cut ld.1 p i))) hf4 hT4
                have hF4 := hF3.tr (Fr33.of hf4 (by simp))
                have es : evp ld.1 (lpl (vOf bd sk xs ld.1) ld.2) p st = (lpl (vOf bd sk xs ld.1) ld.2 p, cut ld.1 p) := by unfold evp; rw [if_pos (by omega)]
                have e1 : nI (lpl (vOf bd sk xs ld.1) ld.2 p) = nI (evp ld.1 (lpl (vOf bd sk xs ld.1) ld.2) p st).1 := by rw [es]
                have et : toB ld.1 to (evp ld.1 (lpl (vOf bd sk xs ld.1) ld.2) p st) = (ld.1, fun i => lN (cut ld.1 p i)) := by rw [es]; unfold toB; exact if_neg (by dsimp only; omega)
                rw [← et] at hC3
                rw [e1]
                have hp3 : ∀ i, i ≤ ld.1 - 1 → σ'.2.1 0 2 i = nI (p i) ∧ p i ≤ 9 := fun i hi => by rw [(hf4.1 0 (by simp)).2.1]; exact hp2 i (by omega)
                have hst3 : (evp ld.1 (lpl (vOf bd sk xs ld.1) ld.2) p st).1 ≤ 1000000 := by rw [es]; dsimp only; omega
                refine go_aload_n (i := 0) (pc := 106) dX11_beats_106 rfl rfl ?_
                refine go_iload_n (i := 2) (pc := 107) dX11_beats_107 rfl rfl ?_
                refine go_callV ml_X11_334 mt_X11_nextPlacing (pc := 108) dX11_beats_108 (c_X11_nextPlacing (by omega) hp3) (by first | rfl | (apply zL_cq <;> assumption) | (apply zR_cq <;> assumption)) rfl (by first | rfl | (apply zL_in <;> first | assumption | decide) | (apply zR_in <;> first | assumption | decide)) (by decide) (by decide) rfl rfl (Nat.le_of_ble_eq_true rfl) (fun r σ' hp => ?_)
                obtain ⟨rfl, hp⟩ := hp
                dsimp only [zRet]
                refine go_istore (pc := 111) dX11_beats_111 (by decide) ?_
                refine go_iincN (pc := 113) dX11_beats_113 rfl (by decide) ?_
                refine go_goto 60 (pc := 116) dX11_beats_116 (by decide) ?_
                cases hnx : nxP (ld.1 - 1) p with
                | none =>
                  rw [hnx] at hp
                  dsimp only at hp
                  subst hp
                  have hfs : evp ld.1 (lpl (vOf bd sk xs ld.1) ld.2) p st = fs := by
                    have e := congrArg Prod.snd hr
                    rw [runC, hnx] at e
                    exact e
                  refine go_drop [0, 1, 2, 3, 4, 5] rfl ?_
                  exact stop0 _ (t + 1) _ (by omega) hfs hC3 hF4
                | some q =>
                  rw [hnx] at hp
                  dsimp only at hp
                  have hr2 : runC ld.1 (lpl (vOf bd sk xs ld.1) ld.2) (ld.1 - 1) j q (evp ld.1 (lpl (vOf bd sk xs ld.1) ld.2) p st) = (fp, fs) := by rw [← hr, runC, hnx]
                  have hsq : sumN ld.1 q = k1 := by
                    have e := nxP_sum hnx
                    rw [show ld.1 - 1 + 1 = ld.1 by omega] at e
                    rw [e]
                    exact hsum
                  refine go_drop [0, 1, 2, 3, 4, 5] rfl ?_
                  exact ih (t + 1) q _ _ (by omega) hst3 hsq hr2 (fun i hi => hp.1 i (by omega)) (hC3.fr hp.2 (by simp)) (hF4.tr (Fr33.of hp.2 (by simp)))
    refine go_aload_n (i := 0) (pc := 11) dX11_beats_11 rfl rfl ?_
    refine go_getr2 fl_X11_91 (pc := 12) dX11_beats_12 (by first | rfl | (apply zL_ci <;> assumption) | (apply zR_ci <;> assumption)) (by first | rfl | (apply zL_in <;> first | assumption | decide) | (apply zR_in <;> first | assumption | decide)) (by first | rfl | (apply zL_fr0 <;> assumption) | (apply zL_fr1 <;> assumption) | (apply zR_fr0 <;> assumption) | (apply zR_fr1 <;> assumption) | (apply zR_fr2 <;> assumption) | (apply zR_fr3 <;> assumption)) ?_
    refine go_iconst (nI 0) (pc := 15) dX11_beats_15 (by decide) ?_
    refine go_callS ml_X11_320 mt_J7_fill_53178 (pc := 16) dX11_beats_16 (c_J7_fill_53178 rfl rfl) (by decide) (by decide) rfl rfl (Nat.le_of_ble_eq_true rfl) (fun r σ' hp => ?_)
    obtain ⟨rfl, g, rfl, hg⟩ := hp
    dsimp only [zRet]
    refine go_aload_n (i := 0) (pc := 19) dX11_beats_19 rfl rfl ?_
    refine go_getr2 fl_X11_49 (pc := 20) dX11_beats_20 (by first | rfl | (apply zL_ci <;> assumption) | (apply zR_ci <;> assumption)) (by first | rfl | (apply zL_in <;> first | assumption | decide) | (apply zR_in <;> first | assumption | decide)) (by first | rfl | (apply zL_fr0 <;> assumption) | (apply zL_fr1 <;> assumption) | (apply zR_fr0 <;> assumption) | (apply zR_fr1 <;> assumption) | (apply zR_fr2 <;> assumption) | (apply zR_fr3 <;> assumption)) ?_
    refine go_callV ml_X11_127 mt_X2_miles (pc := 23) dX11_beats_23 (c_X2_miles rfl (hL.fr (FrG.rf.uA (S := [0]) (by simp)) (by simp))) (by first | rfl | (apply zL_cq <;> assumption) | (apply zR_cq <;> assumption)) rfl (by first | rfl | (apply zL_in <;> first | assumption | decide) | (apply zR_in <;> first | assumption | decide)) (by decide) (by decide) rfl rfl (Nat.le_of_ble_eq_true rfl) (fun r σ' hp => ?_)
    obtain ⟨rfl, hσ⟩ := hp
    rw [hσ]
    clear hσ σ'
    dsimp only [zRet]
    refine go_aload_n (i := 0) (pc := 26) dX11_beats_26 rfl rfl ?_
    refine go_getr2 fl_X11_91 (pc := 27) dX11_beats_27 (by first | rfl | (apply zL_ci <;> assumption) | (apply zR_ci <;> assumption)) (by first | rfl | (apply zL_in <;> first | assumption | decide) | (apply zR_in <;> first | assumption | decide)) (by first | rfl | (apply zL_fr0 <;> assumption) | (apply zL_fr1 <;> assumption) | (apply zR_fr0 <;> assumption) | (apply zR_fr1 <;> assumption) | (apply zR_fr2 <;> assumption) | (apply zR_fr3 <;> assumption)) ?_
    refine go_alen (pc := 30) dX11_beats_30 (by first | rfl | (apply zL_ar1 <;> assumption) | (apply zL_ar2 <;> assumption) | (apply zR_ar1 <;> assumption) | (apply zR_ar2 <;> assumption) | (apply zR_ar3 <;> assumption) | (apply zR_ar4 <;> assumption)) (by first | rfl | (apply zL_jn <;> first | assumption | decide) | (apply zR_jn <;> first | assumption | decide)) ?_
    refine go_callS ml_X11_276 mt_J9_min_7cf53 (pc := 31) dX11_beats_31 (c_J9_minN (by omega) (by omega)) (by decide) (by decide) rfl rfl (Nat.le_of_ble_eq_true rfl) (fun r σ' hp => ?_)
    obtain ⟨rfl, hσ⟩ := hp
    rw [hσ]
    clear hσ σ'
    dsimp only [zRet]
    rw [show min ld.1 12 = ld.1 by omega]
    refine go_iconst (nI 1) (pc := 34) dX11_beats_34 (by decide) ?_
    first | with_reducible refine go_isubN (pc := 35) dX11_beats_35 (by omega) ?_ | refine go_isub (pc := 35) dX11_beats_35 ?_
    refine go_istore_n (i := 2) (pc := 36) dX11_beats_36 rfl (by decide) ?_
    refine go_iload_n (i := 2) (pc := 37) dX11_beats_37 rfl rfl ?_
    refine go_if_ge 43 (pc := 38) dX11_beats_38 (by decide) (fun h38 => ?_) (fun h38 => ?_)
    · first | rw [zb_0d] at h38 | rw [zn_ge0 (by omega)] at h38 | rw [zi_ge0] at h38
      refine go_aload_n (i := 0) (pc := 43) dX11_beats_43 rfl rfl ?_
      refine go_getr2 fl_X11_91 (pc := 44) dX11_beats_44 (by first | rfl | (apply zL_ci <;> assumption) | (apply zR_ci <;> assumption)) (by first | rfl | (apply zL_in <;> first | assumption | decide) | (apply zR_in <;> first | assumption | decide)) (by first | rfl | (apply zL_fr0 <;> assumption) | (apply zL_fr1 <;> assumption) | (apply zR_fr0 <;> assumption) | (apply zR_fr1 <;> assumption) | (apply zR_fr2 <;> assumption) | (apply zR_fr3 <;> assumption)) ?_
      refine go_iload_n (i := 2) (pc := 47) dX11_beats_47 rfl rfl ?_
      refine go_iload_n (i := 1) (pc := 48) dX11_beats_48 rfl rfl ?_
      refine go_iastore (ld.1 - 1) (pc := 49) dX11_beats_49 rfl rfl rfl (by omega) ?_
      refine go_ldcw (1000000) kc_X11_326 (pc := 50) dX11_beats_50 ?_
      rw [show (1000000 : Int32) = nI 1000000 from rfl]
      refine go_istore_n (i := 3) (pc := 53) dX11_beats_53 rfl (by decide) ?_
      refine go_iconst (nI 1) (pc := 54) dX11_beats_54 (by decide) ?_
      refine go_istore (pc := 55) dX11_beats_55 (by decide) ?_
      refine go_iconst (nI 0) (pc := 57) dX11_beats_57 (by decide) ?_
      refine go_istore (pc := 58) dX11_beats_58 (by decide) ?_
      have hfu : FrG [0] σ (uA (uA σ 0 2 g) 0 2 (upd ((uA σ 0 2 g).2.1 0 2) (ld.1 - 1) (nI k1))) := (FrG.rf.uA (by simp)).uA (by simp)
      refine loop J 0 (fstP ld.1 0 k1 (fun _ => 0)) (1000000, fun _ => 0) _ (by omega) (Nat.le_refl _) (fstP_sum hn.1) hrun (fun i hi => ?_) (hC.fr hfu (by simp)) (Fr33.of hfu (by simp))
      rw [uA_s, upd_at, uA_s, show fstP ld.1 0 k1 (fun _ => 0) i = if i + 1 = ld.1 then k1 else 0 from if_neg (by omega)]
      by_cases e : i = ld.1 - 1
      · rw [if_pos e, if_pos (by omega)]
      · rw [if_neg e, if_neg (by omega), hg i (by omega)]
    · first | rw [zb_0d] at h38 | rw [zn_ge0 (by omega)] at h38 | rw [zi_ge0] at h38
      exact absurd trivial h38
  refine go_iload_n (i := 1) (pc := 0) dX11_beats_0 rfl rfl ?_
  refine go_if_lt 9 (pc := 1) dX11_beats_1 (by decide) (fun h1 => ?_) (fun h1 => ?_)
  · first | rw [zb_0d] at h1 | rw [zn_lt0 (by omega)] at h1 | rw [zi_lt0] at h1
    refine go_iconst (-1) (pc := 9) dX11_beats_9 (by decide) ?_
    refine go_ireturn (pc := 10) dX11_beats_10 rfl ?_
    rw [if_neg (by omega), if_neg (by omega)]
    exact ⟨rfl, hC, Fr33.rf⟩
  · first | rw [zb_0d] at h1 | rw [zn_lt0 (by omega)] at h1 | rw [zi_lt0] at h1
    refine go_iload_n (i := 1) (pc := 4) dX11_beats_4 rfl rfl ?_
    refine go_iconst (nI 4) (pc := 5) dX11_beats_5 (by decide) ?_
    refine go_icmp_le 11 (pc := 6) dX11_beats_6 (by decide) (fun h6 => ?_) (fun h6 => ?_)
    · first | rw [nI_leI (by omega) (by omega)] at h6 | rw [zi_leN (by omega)] at h6 | rw [zi_Nle (by omega)] at h6 | rw [zi_le] at h6
      have hin : in0 k 4 := by omega
      have hfin2 := hfin hin
      rw [if_pos hin, if_pos hin]
      clear hfin hin
      have ek1 := nI_of' (x := k) (by omega)
      generalize hqk1 : k.toInt.toNat = k1 at ek1 hfin2 ⊢
      have hk1 : k1 ≤ 4 := by omega
      subst ek1
      exact main k1 _ _ hk1 hfin2 (prod_eta _)
    · first | rw [nI_leI (by omega) (by omega)] at h6 | rw [zi_leN (by omega)] at h6 | rw [zi_Nle (by omega)] at h6 | rw [zi_le] at h6
      refine go_iconst (-1) (pc := 9) dX11_beats_9 (by decide) ?_
      refine go_ireturn (pc := 10) dX11_beats_10 rfl ?_
      rw [if_neg (by omega), if_neg (by omega)]
      exact ⟨rfl, hC, Fr33.rf⟩

