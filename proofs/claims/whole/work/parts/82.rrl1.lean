/-! the reference's reader of rules -/
def RcIs (σ : zT) (ys : List Nat) : Prop := σ.1 33 24 = nI ys.length ∧ ∀ j t, ys[j]? = some t → σ.2.1 33 12 j = nI t
theorem RcIs.fr {fs js : List Nat} {σ σ' : zT} {ys : List Nat} (h : RcIs σ ys) (hf : Fr9 fs js σ σ') (h1 : 24 ∉ fs) (h2 : 12 ∉ js) : RcIs σ' ys :=
  ⟨by rw [hf.2.1 _ h1]; exact h.1, fun j t hj => by rw [hf.2.2.1 _ h2]; exact h.2 j t hj⟩
theorem rc_app {A : Nat → Int32} {S : List Nat} {t : Nat} (h : ∀ j t, S[j]? = some t → A j = nI t) : ∀ j u, (S ++ [t])[j]? = some u → upd A S.length (nI t) j = nI u := by
  intro j u hj
  rw [upd_at]
  by_cases e : j = S.length
  · rw [if_pos e]
    subst e
    rw [List.getElem?_append_right (Nat.le_refl _), Nat.sub_self] at hj
    cases hj
    rfl
  · rw [if_neg e]
    by_cases hl : j < S.length
    · rw [List.getElem?_append_left hl] at hj
      exact h j u hj
    · rw [List.getElem?_append_right (by omega)] at hj
      rw [show j - S.length = (j - S.length - 1) + 1 by omega] at hj
      cases hj

theorem c_X12_codes {E : zE} {σ : zT} {t : Nat} {ys : List Nat} (hR : RcIs σ ys) (hl : ys.length < 80) : CalM E 0 yX12_codes cX12_codes 2 none [.ref (zA E 33 0), .int (nI t)] σ (fun r σ' => r = none ∧ RcIs σ' (ys ++ [t]) ∧ Fr9 [24] [12] σ σ') := by
  refine cal_of_go (own := RX12) rfl (by decide +kernel) (Nat.le_of_ble_eq_true rfl) ?_
  refine go_aload_n (i := 0) (pc := 0) dX12_codes_0 rfl rfl ?_
  refine go_getr2 fl_X12_51 (pc := 1) dX12_codes_1 (by rfl) (by rfl) (by rfl) ?_
  refine go_aload_n (i := 0) (pc := 4) dX12_codes_4 rfl rfl ?_
  refine go_geti fl_X12_206 (pc := 5) dX12_codes_5 (by rfl) ?_
  rw [hR.1]
  refine go_iload_n (i := 1) (pc := 8) dX12_codes_8 rfl rfl ?_
  refine go_iastore _ (pc := 9) dX12_codes_9 (by first | rfl | (apply zM_ar <;> assumption)) (by first | rfl | (apply zM_jn <;> assumption)) rfl (by first | assumption | omega) ?_
  refine go_aload_n (i := 0) (pc := 10) dX12_codes_10 rfl rfl ?_
  refine go_dup (pc := 11) dX12_codes_11 rfl ?_
  refine go_geti fl_X12_206 (pc := 12) dX12_codes_12 (by rfl) ?_
  rw [show (uA σ 33 12 (upd (σ.2.1 33 12) ys.length (nI t))).1 33 24 = nI ys.length from hR.1]
  refine go_iconst (nI 1) (pc := 15) dX12_codes_15 (by decide) ?_
  first | with_reducible refine go_iaddN (pc := 16) dX12_codes_16 ?_ | refine go_iadd (pc := 16) dX12_codes_16 ?_
  refine go_puti fp_X12_206 (pc := 17) dX12_codes_17 (by rfl) rfl rfl ?_
  refine go_return (pc := 20) dX12_codes_20 rfl ?_
  refine ⟨rfl, ⟨?_, ?_⟩, (Fr9.rf.uA (by simp)).uS (by simp)⟩
  · rw [uS_s, List.length_append]; rfl
  · intro j u hj
    show (uA σ 33 12 (upd (σ.2.1 33 12) ys.length (nI t))).2.1 33 12 j = nI u
    rw [uA_s]
    exact rc_app hR.2 j u hj

def rdP (f : Nat → Nat) (lim : Nat) (σ : zT) (b : Bool) (q n2 : Nat) (zs : List Nat) (r : Option Value) (σ' : zT) : Prop :=
  r = some (.int (zb b)) ∧ Cur σ' f q lim ∧ σ'.1 33 18 = nI n2 ∧ RcIs σ' zs ∧ Fr9 [16, 18, 24] [12] σ σ'
def rdI (f : Nat → Nat) (lim : Nat) (σ : zT) (n p : Nat) (ys : List Nat) : Prop := Cur σ f p lim ∧ lim ≤ 40 ∧ σ.1 33 18 = nI n ∧ n ≤ 4 ∧ RcIs σ ys ∧ ys.length ≤ p
def rdQ (E : zE) (f : Nat → Nat) (lim F : Nat) : Prop := ∀ (m n p : Nat) (ys : List Nat) (σ : zT) (b : Bool) (q n2 : Nat) (o : List Nat), m ≤ 3 → rdI f lim σ n p ys → 4 * (lim - p) + (3 - m) + 1 ≤ F → rP f lim F m n p = some (b, q, n2, o) →
  CalM E (2 * F + 7) yX12_readsRank cX12_readsRank 4 (some .boolean) [.ref (zA E 33 0), .int (nI m)] σ (rdP f lim σ b q n2 (ys ++ o))
def rdT (E : zE) (f : Nat → Nat) (lim F : Nat) : Prop := ∀ (n p : Nat) (ys : List Nat) (σ : zT) (b : Bool) (q n2 : Nat) (o : List Nat), rdI f lim σ n p ys → 4 * (lim - p) + 1 ≤ F → rP f lim F 3 n p = some (b, q, n2, o) →
  CalM E (2 * F + 6) yX12_readsThing cX12_readsThing 2 (some .boolean) [.ref (zA E 33 0)] σ (rdP f lim σ b q n2 (ys ++ o))
theorem rdI.bd {f : Nat → Nat} {lim n p : Nat} {σ : zT} {ys : List Nat} (h : rdI f lim σ n p ys) : p ≤ lim := h.1.2.2.1

theorem rdT_s {E : zE} {f : Nat → Nat} {lim F : Nat} (hT : rdT E f lim F) (hQ : rdQ E f lim F) : rdT E f lim (F + 1) := by
  intro n p ys σ b q n2 o hI hF e
  refine cal_of_go (own := RX12) rfl (by decide +kernel) (Nat.le_of_ble_eq_true rfl) ?_
  obtain ⟨hK, hl40, hn18, hn4, hRc, hyl⟩ := hI
  have hpl := hK.2.2.1
  rw [rP, if_pos rfl] at e
  by_cases h45 : p < lim ∧ f p = 45
  · rw [if_pos h45] at e
    obtain ⟨b1, q1, n1, o1, e1, g⟩ := rP_tot (f := f) (lim := lim) F 3 n (p + 1) (by decide) hn4 (by omega) (by omega)
    rw [e1] at e
    cases e
    have g3 := g.2.2.1
    have g2 := g.2.1
    refine go_aload_n (i := 0) (pc := 0) dX12_readsThing_0 rfl rfl ?_
    refine go_bipush (nI 45) (pc := 1) dX12_readsThing_1 (by decide) ?_
    refine go_callV ml_X12_192 mt_X12_takes (pc := 3) dX12_readsThing_3 (c_X12_takes hK (by decide)) (by rfl) rfl (by rfl) (by first | decide | omega) (by decide) rfl rfl (Nat.le_of_ble_eq_true rfl) (fun r σ' hp => ?_)
    obtain ⟨rfl, hK1, hF1⟩ := hp
    dsimp only [zRet]
    rw [if_pos h45] at hK1
    refine go_if_eq 23 (pc := 6) dX12_readsThing_6 (by decide) (fun h6 => ?_) (fun h6 => ?_)
    · exact absurd h45 (zb_0d.mp h6)
    · refine go_aload_n (i := 0) (pc := 9) dX12_readsThing_9 rfl rfl ?_
      refine go_callV ml_X12_209 mt_X12_readsThing (pc := 10) dX12_readsThing_10 (hT n (p + 1) ys _ _ _ _ _ ⟨hK1, hl40, by rw [hF1.2.1 _ (by decide)]; exact hn18, hn4, hRc.fr hF1 (by decide) (by decide), by omega⟩ (by omega) e1) (by rfl) rfl (by rfl) (by first | decide | omega) (by decide) rfl rfl (Nat.le_of_ble_eq_true rfl) (fun r σ' hp => ?_)
      obtain ⟨rfl, hK2, hn2, hR2, hF2⟩ := hp
      dsimp only [zRet]
      refine go_istore_n (i := 1) (pc := 13) dX12_readsThing_13 rfl (by decide) ?_
      refine go_aload_n (i := 0) (pc := 14) dX12_readsThing_14 rfl rfl ?_
      refine go_sipush (nI 3000) (pc := 15) dX12_readsThing_15 (by decide) ?_
      refine go_callV ml_X12_212 mt_X12_codes (pc := 18) dX12_readsThing_18 (c_X12_codes hR2 (by rw [List.length_append]; omega)) (by rfl) rfl (by rfl) (by first | decide | omega) (by decide) rfl rfl (Nat.le_of_ble_eq_true rfl) (fun r σ' hp => ?_)
      obtain ⟨rfl, hR3, hF3⟩ := hp
      dsimp only [zRet]
      refine go_iload_n (i := 1) (pc := 21) dX12_readsThing_21 rfl rfl ?_
      refine go_zreturn (pc := 22) dX12_readsThing_22 rfl (by apply zb_nar) ?_
      exact ⟨rfl, hK2.fr hF3 (by decide) (by decide) (by decide), by rw [hF3.2.1 _ (by decide)]; exact hn2, by rw [← List.append_assoc]; exact hR3, ((hF1.mono (by simp) (by simp)).tr hF2).tr (hF3.mono (by simp) (by simp))⟩
  · rw [if_neg h45] at e
    by_cases hd : p < lim ∧ 48 ≤ f p ∧ f p ≤ 57
    · rw [if_pos hd] at e
      cases e
      have hdp := tDig_p hd
      refine go_aload_n (i := 0) (pc := 0) dX12_readsThing_0 rfl rfl ?_
      refine go_bipush (nI 45) (pc := 1) dX12_readsThing_1 (by decide) ?_
      refine go_callV ml_X12_192 mt_X12_takes (pc := 3) dX12_readsThing_3 (c_X12_takes hK (by decide)) (by rfl) rfl (by rfl) (by first | decide | omega) (by decide) rfl rfl (Nat.le_of_ble_eq_true rfl) (fun r σ' hp => ?_)
      obtain ⟨rfl, hK1, hF1⟩ := hp
      dsimp only [zRet]
      rw [if_neg h45] at hK1
      have hn1 : σ'.1 33 18 = nI n := by rw [hF1.2.1 _ (by decide)]; exact hn18
      have hR1 := hRc.fr hF1 (by decide) (by decide)
      refine go_if_eq 23 (pc := 6) dX12_readsThing_6 (by decide) (fun h6 => ?_) (fun h6 => ?_)
      · refine go_aload_n (i := 0) (pc := 23) dX12_readsThing_23 rfl rfl ?_
        refine go_callV ml_X12_158 mt_X12_isDigit (pc := 24) dX12_readsThing_24 (c_X12_isDigit hK1) (by rfl) rfl (by rfl) (by first | decide | omega) (by decide) rfl rfl (Nat.le_of_ble_eq_true rfl) (fun r σ' hp => ?_)
        obtain ⟨rfl, hσ⟩ := hp
        rw [hσ]
        clear hσ
        dsimp only [zRet]
        refine go_if_eq 41 (pc := 27) dX12_readsThing_27 (by decide) (fun h27 => ?_) (fun h27 => ?_)
        · exact absurd hd (zb_0d.mp h27)
        · refine go_aload_n (i := 0) (pc := 30) dX12_readsThing_30 rfl rfl ?_
          refine go_aload_n (i := 0) (pc := 31) dX12_readsThing_31 rfl rfl ?_
          refine go_iconst (nI 3) (pc := 32) dX12_readsThing_32 (by decide) ?_
          refine go_callV ml_X12_162 mt_X12_number (pc := 33) dX12_readsThing_33 (c_X12_number (D := 3) hK1 (by decide) (by decide)) (by rfl) rfl (by rfl) (by first | decide | omega) (by decide) rfl rfl (Nat.le_of_ble_eq_true rfl) (fun r σ' hp => ?_)
          obtain ⟨rfl, hK2, hF2⟩ := hp
          dsimp only [zRet]
          rw [if_neg (by omega)]
          refine go_callV ml_X12_212 mt_X12_codes (pc := 36) dX12_readsThing_36 (c_X12_codes (hR1.fr hF2 (by decide) (by decide)) (by omega)) (by rfl) rfl (by rfl) (by first | decide | omega) (by decide) rfl rfl (Nat.le_of_ble_eq_true rfl) (fun r σ' hp => ?_)
          obtain ⟨rfl, hR3, hF3⟩ := hp
          dsimp only [zRet]
          refine go_iconst (nI 1) (pc := 39) dX12_readsThing_39 (by decide) ?_
          refine go_zreturn (pc := 40) dX12_readsThing_40 rfl (by rfl) ?_
          exact ⟨rfl, hK2.fr hF3 (by decide) (by decide) (by decide), by rw [hF3.2.1 _ (by decide), hF2.2.1 _ (by decide)]; exact hn1, hR3, ((hF1.mono (by simp) (by simp)).tr (hF2.mono (by simp) (by simp))).tr (hF3.mono (by simp) (by simp))⟩
      · exact absurd (zb_0d.mpr h45) h6
    · rw [if_neg hd] at e
      cases ea : amA 2 f p lim with
      | some a =>
        rw [ea] at e
        cases e
        have ha2 := amA_2 ea
        refine go_aload_n (i := 0) (pc := 0) dX12_readsThing_0 rfl rfl ?_
        refine go_bipush (nI 45) (pc := 1) dX12_readsThing_1 (by decide) ?_
        refine go_callV ml_X12_192 mt_X12_takes (pc := 3) dX12_readsThing_3 (c_X12_takes hK (by decide)) (by rfl) rfl (by rfl) (by first | decide | omega) (by decide) rfl rfl (Nat.le_of_ble_eq_true rfl) (fun r σ' hp => ?_)
        obtain ⟨rfl, hK1, hF1⟩ := hp
        dsimp only [zRet]
        rw [if_neg h45] at hK1
        have hn1 : σ'.1 33 18 = nI n := by rw [hF1.2.1 _ (by decide)]; exact hn18
        have hR1 := hRc.fr hF1 (by decide) (by decide)
        refine go_if_eq 23 (pc := 6) dX12_readsThing_6 (by decide) (fun h6 => ?_) (fun h6 => ?_)
        · refine go_aload_n (i := 0) (pc := 23) dX12_readsThing_23 rfl rfl ?_
          refine go_callV ml_X12_158 mt_X12_isDigit (pc := 24) dX12_readsThing_24 (c_X12_isDigit hK1) (by rfl) rfl (by rfl) (by first | decide | omega) (by decide) rfl rfl (Nat.le_of_ble_eq_true rfl) (fun r σ' hp => ?_)
          obtain ⟨rfl, hσ⟩ := hp
          rw [hσ]
          clear hσ
          dsimp only [zRet]
          refine go_if_eq 41 (pc := 27) dX12_readsThing_27 (by decide) (fun h27 => ?_) (fun h27 => ?_)
          · refine go_aload_n (i := 0) (pc := 41) dX12_readsThing_41 rfl rfl ?_
            refine go_ldcS 2 rfl rfl (pc := 42) dX12_readsThing_42 ?_
            refine go_callV ml_X12_172 mt_X12_takesOf (pc := 44) dX12_readsThing_44 (c_X12_takesOf (ti := 2) hK1 (by decide)) (by rfl) rfl (by rfl) (by first | decide | omega) (by decide) rfl rfl (Nat.le_of_ble_eq_true rfl) (fun r σ' hp => ?_)
            obtain ⟨rfl, hK2, hF2⟩ := hp
            dsimp only [zRet]
            rw [ea] at hK2 ⊢
            dsimp only [gM] at hK2 ⊢
            have hn2 := hF2.2.1 18 (by decide)
            rw [hn1] at hn2
            have hR2 := hR1.fr hF2 (by decide) (by decide)
            refine go_istore_n (i := 1) (pc := 47) dX12_readsThing_47 rfl (by decide) ?_
            refine go_iload_n (i := 1) (pc := 48) dX12_readsThing_48 rfl rfl ?_
            refine go_if_lt 63 (pc := 49) dX12_readsThing_49 (by decide) (fun h49 => ?_) (fun h49 => ?_)
            · first | rw [zb_0d] at h49 | rw [zn_lt0 (by omega)] at h49 | rw [zi_lt0] at h49
              exfalso
              omega
            · first | rw [zb_0d] at h49 | rw [zn_lt0 (by omega)] at h49 | rw [zi_lt0] at h49
              refine go_aload_n (i := 0) (pc := 52) dX12_readsThing_52 rfl rfl ?_
              refine go_sipush (nI 1000) (pc := 53) dX12_readsThing_53 (by decide) ?_
              refine go_iload_n (i := 1) (pc := 56) dX12_readsThing_56 rfl rfl ?_
              first | with_reducible refine go_iaddN (pc := 57) dX12_readsThing_57 ?_ | refine go_iadd (pc := 57) dX12_readsThing_57 ?_
              refine go_callV ml_X12_212 mt_X12_codes (pc := 58) dX12_readsThing_58 (c_X12_codes hR2 (by omega)) (by rfl) rfl (by rfl) (by first | decide | omega) (by decide) rfl rfl (Nat.le_of_ble_eq_true rfl) (fun r σ' hp => ?_)
              obtain ⟨rfl, hR3, hF3⟩ := hp
              dsimp only [zRet]
              refine go_iconst (nI 1) (pc := 61) dX12_readsThing_61 (by decide) ?_
              refine go_zreturn (pc := 62) dX12_readsThing_62 rfl (by rfl) ?_
              exact ⟨rfl, hK2.fr hF3 (by decide) (by decide) (by decide), by rw [hF3.2.1 _ (by decide)]; exact hn2, hR3, ((hF1.mono (by simp) (by simp)).tr (hF2.mono (by simp) (by simp))).tr (hF3.mono (by simp) (by simp))⟩
          · exact absurd (zb_0d.mpr hd) h27
        · exact absurd (zb_0d.mpr h45) h6
      | none =>
        rw [ea] at e
        dsimp only at e
        by_cases h4 : n = 4 ∨ ¬ (p < lim ∧ f p = 40)
        · rw [if_pos h4] at e
          cases e
          refine go_aload_n (i := 0) (pc := 0) dX12_readsThing_0 rfl rfl ?_
          refine go_bipush (nI 45) (pc := 1) dX12_readsThing_1 (by decide) ?_
          refine go_callV ml_X12_192 mt_X12_takes (pc := 3) dX12_readsThing_3 (c_X12_takes hK (by decide)) (by rfl) rfl (by rfl) (by first | decide | omega) (by decide) rfl rfl (Nat.le_of_ble_eq_true rfl) (fun r σ' hp => ?_)
          obtain ⟨rfl, hK1, hF1⟩ := hp
          dsimp only [zRet]
          rw [if_neg h45] at hK1
          have hn1 : σ'.1 33 18 = nI n := by rw [hF1.2.1 _ (by decide)]; exact hn18
          have hR1 := hRc.fr hF1 (by decide) (by decide)
          refine go_if_eq 23 (pc := 6) dX12_readsThing_6 (by decide) (fun h6 => ?_) (fun h6 => ?_)
          · refine go_aload_n (i := 0) (pc := 23) dX12_readsThing_23 rfl rfl ?_
            refine go_callV ml_X12_158 mt_X12_isDigit (pc := 24) dX12_readsThing_24 (c_X12_isDigit hK1) (by rfl) rfl (by rfl) (by first | decide | omega) (by decide) rfl rfl (Nat.le_of_ble_eq_true rfl) (fun r σ' hp => ?_)
            obtain ⟨rfl, hσ⟩ := hp
            rw [hσ]
            clear hσ
            dsimp only [zRet]
            refine go_if_eq 41 (pc := 27) dX12_readsThing_27 (by decide) (fun h27 => ?_) (fun h27 => ?_)
            · refine go_aload_n (i := 0) (pc := 41) dX12_readsThing_41 rfl rfl ?_
              refine go_ldcS 2 rfl rfl (pc := 42) dX12_readsThing_42 ?_
              refine go_callV ml_X12_172 mt_X12_takesOf (pc := 44) dX12_readsThing_44 (c_X12_takesOf (ti := 2) hK1 (by decide)) (by rfl) rfl (by rfl) (by first | decide | omega) (by decide) rfl rfl (Nat.le_of_ble_eq_true rfl) (fun r σ' hp => ?_)
              obtain ⟨rfl, hK2, hF2⟩ := hp
              dsimp only [zRet]
              rw [ea] at hK2 ⊢
              dsimp only [gM] at hK2 ⊢
              have hn2 := hF2.2.1 18 (by decide)
              rw [hn1] at hn2
              have hR2 := hR1.fr hF2 (by decide) (by decide)
              refine go_istore_n (i := 1) (pc := 47) dX12_readsThing_47 rfl (by decide) ?_
              refine go_iload_n (i := 1) (pc := 48) dX12_readsThing_48 rfl rfl ?_
              refine go_if_lt 63 (pc := 49) dX12_readsThing_49 (by decide) (fun h49 => ?_) (fun h49 => ?_)
              · refine go_aload_n (i := 0) (pc := 63) dX12_readsThing_63 rfl rfl ?_
                refine go_geti fl_X12_124 (pc := 64) dX12_readsThing_64 (by rfl) ?_
                rw [hn2]
                refine go_iconst (nI 4) (pc := 67) dX12_readsThing_67 (by decide) ?_
                refine go_icmp_eq 80 (pc := 68) dX12_readsThing_68 (by decide) (fun h68 => ?_) (fun h68 => ?_)
                · first | rw [nI_eq (by omega) (by omega)] at h68 | rw [zi_eqN (by omega)] at h68 | rw [zi_Neq (by omega)] at h68 | rw [zi_eq] at h68
                  refine go_iconst (nI 0) (pc := 80) dX12_readsThing_80 (by decide) ?_
                  refine go_zreturn (pc := 81) dX12_readsThing_81 rfl (by rfl) ?_
                  first
                    | exact ⟨rfl, hK2, hn2, by rw [List.append_nil]; exact hR2, (hF1.mono (by simp) (by simp)).tr (hF2.mono (by simp) (by simp))⟩
                    | exact ⟨rfl, hK3, by rw [hF3.2.1 _ (by decide)]; exact hn2, by rw [List.append_nil]; exact hR2.fr hF3 (by decide) (by decide), ((hF1.mono (by simp) (by simp)).tr (hF2.mono (by simp) (by simp))).tr (hF3.mono (by simp) (by simp))⟩
                · first | rw [nI_eq (by omega) (by omega)] at h68 | rw [zi_eqN (by omega)] at h68 | rw [zi_Neq (by omega)] at h68 | rw [zi_eq] at h68
                  refine go_aload_n (i := 0) (pc := 71) dX12_readsThing_71 rfl rfl ?_
                  refine go_bipush (nI 40) (pc := 72) dX12_readsThing_72 (by decide) ?_
                  refine go_callV ml_X12_192 mt_X12_takes (pc := 74) dX12_readsThing_74 (c_X12_takes hK2 (by decide)) (by rfl) rfl (by rfl) (by first | decide | omega) (by decide) rfl rfl (Nat.le_of_ble_eq_true rfl) (fun r σ' hp => ?_)
                  obtain ⟨rfl, hK3, hF3⟩ := hp
                  dsimp only [zRet]
                  refine go_if_ne 82 (pc := 77) dX12_readsThing_77 (by decide) (fun h77 => ?_) (fun h77 => ?_)
                  · have h77 := Decidable.not_not.mp (fun q => h77 (zb_0d.mpr q))
                    exfalso
                    omega
                  · rw [if_neg (by omega)] at hK3
                    refine go_iconst (nI 0) (pc := 80) dX12_readsThing_80 (by decide) ?_
                    refine go_zreturn (pc := 81) dX12_readsThing_81 rfl (by rfl) ?_
                    first
                      | exact ⟨rfl, hK2, hn2, by rw [List.append_nil]; exact hR2, (hF1.mono (by simp) (by simp)).tr (hF2.mono (by simp) (by simp))⟩
                      | exact ⟨rfl, hK3, by rw [hF3.2.1 _ (by decide)]; exact hn2, by rw [List.append_nil]; exact hR2.fr hF3 (by decide) (by decide), ((hF1.mono (by simp) (by simp)).tr (hF2.mono (by simp) (by simp))).tr (hF3.mono (by simp) (by simp))⟩
              · exact absurd (by decide) h49
            · exact absurd (zb_0d.mpr hd) h27
          · exact absurd (zb_0d.mpr h45) h6
        · rw [if_neg h4] at e
          have h40 : p < lim ∧ f p = 40 ∧ n < 4 := by omega
          obtain ⟨b1, q1, n1, o1, e1, g⟩ := rP_tot (f := f) (lim := lim) F 0 (n + 1) (p + 1) (by decide) (by omega) (by omega) (by omega)
          rw [e1] at e
          dsimp only at e
          have g2 := g.2.1
          have g4 := g.2.2.2.1
          have g5 := g.2.2.2.2.1
          cases b1 with
          | false =>
            rw [if_neg (fun h => absurd h.1 (by decide))] at e
            cases e
            refine go_aload_n (i := 0) (pc := 0) dX12_readsThing_0 rfl rfl ?_
            refine go_bipush (nI 45) (pc := 1) dX12_readsThing_1 (by decide) ?_
            refine go_callV ml_X12_192 mt_X12_takes (pc := 3) dX12_readsThing_3 (c_X12_takes hK (by decide)) (by rfl) rfl (by rfl) (by first | decide | omega) (by decide) rfl rfl (Nat.le_of_ble_eq_true rfl) (fun r σ' hp => ?_)
            obtain ⟨rfl, hK1, hF1⟩ := hp
            dsimp only [zRet]
            rw [if_neg h45] at hK1
            have hn1 : σ'.1 33 18 = nI n := by rw [hF1.2.1 _ (by decide)]; exact hn18
            have hR1 := hRc.fr hF1 (by decide) (by decide)
            refine go_if_eq 23 (pc := 6) dX12_readsThing_6 (by decide) (fun h6 => ?_) (fun h6 => ?_)
            · refine go_aload_n (i := 0) (pc := 23) dX12_readsThing_23 rfl rfl ?_
              refine go_callV ml_X12_158 mt_X12_isDigit (pc := 24) dX12_readsThing_24 (c_X12_isDigit hK1) (by rfl) rfl (by rfl) (by first | decide | omega) (by decide) rfl rfl (Nat.le_of_ble_eq_true rfl) (fun r σ' hp => ?_)
              obtain ⟨rfl, hσ⟩ := hp
              rw [hσ]
              clear hσ
              dsimp only [zRet]
              refine go_if_eq 41 (pc := 27) dX12_readsThing_27 (by decide) (fun h27 => ?_) (fun h27 => ?_)
              · refine go_aload_n (i := 0) (pc := 41) dX12_readsThing_41 rfl rfl ?_
                refine go_ldcS 2 rfl rfl (pc := 42) dX12_readsThing_42 ?_
                refine go_callV ml_X12_172 mt_X12_takesOf (pc := 44) dX12_readsThing_44 (c_X12_takesOf (ti := 2) hK1 (by decide)) (by rfl) rfl (by rfl) (by first | decide | omega) (by decide) rfl rfl (Nat.le_of_ble_eq_true rfl) (fun r σ' hp => ?_)
                obtain ⟨rfl, hK2, hF2⟩ := hp
                dsimp only [zRet]
                rw [ea] at hK2 ⊢
                dsimp only [gM] at hK2 ⊢
                have hn2 := hF2.2.1 18 (by decide)
                rw [hn1] at hn2
                have hR2 := hR1.fr hF2 (by decide) (by decide)
                refine go_istore_n (i := 1) (pc := 47) dX12_readsThing_47 rfl (by decide) ?_
                refine go_iload_n (i := 1) (pc := 48) dX12_readsThing_48 rfl rfl ?_
                refine go_if_lt 63 (pc := 49) dX12_readsThing_49 (by decide) (fun h49 => ?_) (fun h49 => ?_)
                · refine go_aload_n (i := 0) (pc := 63) dX12_readsThing_63 rfl rfl ?_
                  refine go_geti fl_X12_124 (pc := 64) dX12_readsThing_64 (by rfl) ?_
                  rw [hn2]
                  refine go_iconst (nI 4) (pc := 67) dX12_readsThing_67 (by decide) ?_
                  refine go_icmp_eq 80 (pc := 68) dX12_readsThing_68 (by decide) (fun h68 => ?_) (fun h68 => ?_)
                  · first | rw [nI_eq (by omega) (by omega)] at h68 | rw [zi_eqN (by omega)] at h68 | rw [zi_Neq (by omega)] at h68 | rw [zi_eq] at h68
                    exfalso
                    omega
                  · first | rw [nI_eq (by omega) (by omega)] at h68 | rw [zi_eqN (by omega)] at h68 | rw [zi_Neq (by omega)] at h68 | rw [zi_eq] at h68
                    refine go_aload_n (i := 0) (pc := 71) dX12_readsThing_71 rfl rfl ?_
                    refine go_bipush (nI 40) (pc := 72) dX12_readsThing_72 (by decide) ?_
                    refine go_callV ml_X12_192 mt_X12_takes (pc := 74) dX12_readsThing_74 (c_X12_takes hK2 (by decide)) (by rfl) rfl (by rfl) (by first | decide | omega) (by decide) rfl rfl (Nat.le_of_ble_eq_true rfl) (fun r σ' hp => ?_)
                    obtain ⟨rfl, hK3, hF3⟩ := hp
                    dsimp only [zRet]
                    rw [if_pos ⟨h40.1, h40.2.1⟩] at hK3
                    have hn3 := hF3.2.1 18 (by decide)
                    rw [hn2] at hn3
                    have hR3 := hR2.fr hF3 (by decide) (by decide)
                    refine go_if_ne 82 (pc := 77) dX12_readsThing_77 (by decide) (fun h77 => ?_) (fun h77 => ?_)
                    · refine go_aload_n (i := 0) (pc := 82) dX12_readsThing_82 rfl rfl ?_
                      refine go_dup (pc := 83) dX12_readsThing_83 rfl ?_
                      refine go_geti fl_X12_124 (pc := 84) dX12_readsThing_84 (by rfl) ?_
                      rw [hn3]
                      refine go_iconst (nI 1) (pc := 87) dX12_readsThing_87 (by decide) ?_
                      first | with_reducible refine go_iaddN (pc := 88) dX12_readsThing_88 ?_ | refine go_iadd (pc := 88) dX12_readsThing_88 ?_
                      refine go_puti fp_X12_124 (pc := 89) dX12_readsThing_89 (by rfl) rfl rfl ?_
                      refine go_aload_n (i := 0) (pc := 92) dX12_readsThing_92 rfl rfl ?_
                      refine go_iconst (nI 0) (pc := 93) dX12_readsThing_93 (by decide) ?_
                      refine go_callV ml_X12_218 mt_X12_readsRank (pc := 94) dX12_readsThing_94 (hQ 0 (n + 1) (p + 1) ys _ _ _ _ _ (by decide) ⟨hK3.fr (fs := [18]) (js := []) (Fr9.rf.uS (by simp)) (by decide) (by decide) (by decide), hl40, uS_s _ _ _ _, by omega, hR3.fr (fs := [18]) (js := []) (Fr9.rf.uS (by simp)) (by decide) (by decide), by omega⟩ (by omega) e1) (by rfl) rfl (by rfl) (by first | decide | omega) (by decide) rfl rfl (Nat.le_of_ble_eq_true rfl) (fun r σ' hp => ?_)
                      obtain ⟨rfl, hK4, hn4b, hR4, hF4⟩ := hp
                      dsimp only [zRet]
                      refine go_if_eq 109 (pc := 97) dX12_readsThing_97 (by decide) (fun h97 => ?_) (fun h97 => ?_)
                      · refine go_iconst (nI 0) (pc := 109) dX12_readsThing_109 (by decide) ?_
                        refine go_zreturn (pc := 110) dX12_readsThing_110 rfl (by rfl) ?_
                        exact ⟨rfl, hK4, hn4b, hR4, ((((hF1.mono (by simp) (by simp)).tr (hF2.mono (by simp) (by simp))).tr (hF3.mono (by simp) (by simp))).uS (by simp)).tr hF4⟩
                      · exact absurd rfl h97
                    · exact absurd ⟨h40.1, h40.2.1⟩ (zb_0d.mp h77)
                · exact absurd (by decide) h49
              · exact absurd (zb_0d.mpr hd) h27
            · exact absurd (zb_0d.mpr h45) h6
          | true =>
            by_cases h41 : q1 < lim ∧ f q1 = 41
            · rw [if_pos ⟨rfl, h41⟩] at e
              cases e
              refine go_aload_n (i := 0) (pc := 0) dX12_readsThing_0 rfl rfl ?_
              refine go_bipush (nI 45) (pc := 1) dX12_readsThing_1 (by decide) ?_
              refine go_callV ml_X12_192 mt_X12_takes (pc := 3) dX12_readsThing_3 (c_X12_takes hK (by decide)) (by rfl) rfl (by rfl) (by first | decide | omega) (by decide) rfl rfl (Nat.le_of_ble_eq_true rfl) (fun r σ' hp => ?_)
              obtain ⟨rfl, hK1, hF1⟩ := hp
              dsimp only [zRet]
              rw [if_neg h45] at hK1
              have hn1 : σ'.1 33 18 = nI n := by rw [hF1.2.1 _ (by decide)]; exact hn18
              have hR1 := hRc.fr hF1 (by decide) (by decide)
              refine go_if_eq 23 (pc := 6) dX12_readsThing_6 (by decide) (fun h6 => ?_) (fun h6 => ?_)
              · refine go_aload_n (i := 0) (pc := 23) dX12_readsThing_23 rfl rfl ?_
                refine go_callV ml_X12_158 mt_X12_isDigit (pc := 24) dX12_readsThing_24 (c_X12_isDigit hK1) (by rfl) rfl (by rfl) (by first | decide | omega) (by decide) rfl rfl (Nat.le_of_ble_eq_true rfl) (fun r σ' hp => ?_)
                obtain ⟨rfl, hσ⟩ := hp
                rw [hσ]
                clear hσ
                dsimp only [zRet]
                refine go_if_eq 41 (pc := 27) dX12_readsThing_27 (by decide) (fun h27 => ?_) (fun h27 => ?_)
                · refine go_aload_n (i := 0) (pc := 41) dX12_readsThing_41 rfl rfl ?_
                  refine go_ldcS 2 rfl rfl (pc := 42) dX12_readsThing_42 ?_
                  refine go_callV ml_X12_172 mt_X12_takesOf (pc := 44) dX12_readsThing_44 (c_X12_takesOf (ti := 2) hK1 (by decide)) (by rfl) rfl (by rfl) (by first | decide | omega) (by decide) rfl rfl (Nat.le_of_ble_eq_true rfl) (fun r σ' hp => ?_)
                  obtain ⟨rfl, hK2, hF2⟩ := hp
                  dsimp only [zRet]
                  rw [ea] at hK2 ⊢
                  dsimp only [gM] at hK2 ⊢
                  have hn2 := hF2.2.1 18 (by decide)
                  rw [hn1] at hn2
                  have hR2 := hR1.fr hF2 (by decide) (by decide)
                  refine go_istore_n (i := 1) (pc := 47) dX12_readsThing_47 rfl (by decide) ?_
                  refine go_iload_n (i := 1) (pc := 48) dX12_readsThing_48 rfl rfl ?_
                  refine go_if_lt 63 (pc := 49) dX12_readsThing_49 (by decide) (fun h49 => ?_) (fun h49 => ?_)
                  · refine go_aload_n (i := 0) (pc := 63) dX12_readsThing_63 rfl rfl ?_
                    refine go_geti fl_X12_124 (pc := 64) dX12_readsThing_64 (by rfl) ?_
                    rw [hn2]
                    refine go_iconst (nI 4) (pc := 67) dX12_readsThing_67 (by decide) ?_
                    refine go_icmp_eq 80 (pc := 68) dX12_readsThing_68 (by decide) (fun h68 => ?_) (fun h68 => ?_)
                    · first | rw [nI_eq (by omega) (by omega)] at h68 | rw [zi_eqN (by omega)] at h68 | rw [zi_Neq (by omega)] at h68 | rw [zi_eq] at h68
                      exfalso
                      omega
                    · first | rw [nI_eq (by omega) (by omega)] at h68 | rw [zi_eqN (by omega)] at h68 | rw [zi_Neq (by omega)] at h68 | rw [zi_eq] at h68
                      refine go_aload_n (i := 0) (pc := 71) dX12_readsThing_71 rfl rfl ?_
                      refine go_bipush (nI 40) (pc := 72) dX12_readsThing_72 (by decide) ?_
                      refine go_callV ml_X12_192 mt_X12_takes (pc := 74) dX12_readsThing_74 (c_X12_takes hK2 (by decide)) (by rfl) rfl (by rfl) (by first | decide | omega) (by decide) rfl rfl (Nat.le_of_ble_eq_true rfl) (fun r σ' hp => ?_)
                      obtain ⟨rfl, hK3, hF3⟩ := hp
                      dsimp only [zRet]
                      rw [if_pos ⟨h40.1, h40.2.1⟩] at hK3
                      have hn3 := hF3.2.1 18 (by decide)
                      rw [hn2] at hn3
                      have hR3 := hR2.fr hF3 (by decide) (by decide)
                      refine go_if_ne 82 (pc := 77) dX12_readsThing_77 (by decide) (fun h77 => ?_) (fun h77 => ?_)
                      · refine go_aload_n (i := 0) (pc := 82) dX12_readsThing_82 rfl rfl ?_
                        refine go_dup (pc := 83) dX12_readsThing_83 rfl ?_
                        refine go_geti fl_X12_124 (pc := 84) dX12_readsThing_84 (by rfl) ?_
                        rw [hn3]
                        refine go_iconst (nI 1) (pc := 87) dX12_readsThing_87 (by decide) ?_
                        first | with_reducible refine go_iaddN (pc := 88) dX12_readsThing_88 ?_ | refine go_iadd (pc := 88) dX12_readsThing_88 ?_
                        refine go_puti fp_X12_124 (pc := 89) dX12_readsThing_89 (by rfl) rfl rfl ?_
                        refine go_aload_n (i := 0) (pc := 92) dX12_readsThing_92 rfl rfl ?_
                        refine go_iconst (nI 0) (pc := 93) dX12_readsThing_93 (by decide) ?_
                        refine go_callV ml_X12_218 mt_X12_readsRank (pc := 94) dX12_readsThing_94 (hQ 0 (n + 1) (p + 1) ys _ _ _ _ _ (by decide) ⟨hK3.fr (fs := [18]) (js := []) (Fr9.rf.uS (by simp)) (by decide) (by decide) (by decide), hl40, uS_s _ _ _ _, by omega, hR3.fr (fs := [18]) (js := []) (Fr9.rf.uS (by simp)) (by decide) (by decide), by omega⟩ (by omega) e1) (by rfl) rfl (by rfl) (by first | decide | omega) (by decide) rfl rfl (Nat.le_of_ble_eq_true rfl) (fun r σ' hp => ?_)
                        obtain ⟨rfl, hK4, hn4b, hR4, hF4⟩ := hp
                        dsimp only [zRet]
                        refine go_if_eq 109 (pc := 97) dX12_readsThing_97 (by decide) (fun h97 => ?_) (fun h97 => ?_)
                        · exact absurd h97 (by decide)
                        · refine go_aload_n (i := 0) (pc := 100) dX12_readsThing_100 rfl rfl ?_
                          refine go_bipush (nI 41) (pc := 101) dX12_readsThing_101 (by decide) ?_
                          refine go_callV ml_X12_192 mt_X12_takes (pc := 103) dX12_readsThing_103 (c_X12_takes hK4 (by decide)) (by rfl) rfl (by rfl) (by first | decide | omega) (by decide) rfl rfl (Nat.le_of_ble_eq_true rfl) (fun r σ' hp => ?_)
                          obtain ⟨rfl, hK5, hF5⟩ := hp
                          dsimp only [zRet]
                          have hn5 := hF5.2.1 18 (by decide)
                          rw [hn4b] at hn5
                          have hR5 := hR4.fr hF5 (by decide) (by decide)
                          refine go_if_ne 111 (pc := 106) dX12_readsThing_106 (by decide) (fun h106 => ?_) (fun h106 => ?_)
                          · rw [if_pos h41] at hK5
                            refine go_aload_n (i := 0) (pc := 111) dX12_readsThing_111 rfl rfl ?_
                            refine go_dup (pc := 112) dX12_readsThing_112 rfl ?_
                            refine go_geti fl_X12_124 (pc := 113) dX12_readsThing_113 (by rfl) ?_
                            rw [hn5]
                            refine go_iconst (nI 1) (pc := 116) dX12_readsThing_116 (by decide) ?_
                            first | with_reducible refine go_isubN (pc := 117) dX12_readsThing_117 (by omega) ?_ | refine go_isub (pc := 117) dX12_readsThing_117 ?_
                            refine go_puti fp_X12_124 (pc := 118) dX12_readsThing_118 (by rfl) rfl rfl ?_
                            refine go_iconst (nI 1) (pc := 121) dX12_readsThing_121 (by decide) ?_
                            refine go_zreturn (pc := 122) dX12_readsThing_122 rfl (by rfl) ?_
                            exact ⟨rfl, hK5.fr (fs := [18]) (js := []) (Fr9.rf.uS (by simp)) (by decide) (by decide) (by decide), uS_s _ _ _ _, hR5.fr (fs := [18]) (js := []) (Fr9.rf.uS (by simp)) (by decide) (by decide), ((((((hF1.mono (by simp) (by simp)).tr (hF2.mono (by simp) (by simp))).tr (hF3.mono (by simp) (by simp))).uS (by simp)).tr hF4).tr (hF5.mono (by simp) (by simp))).uS (by simp)⟩
                          · exact absurd h41 (zb_0d.mp h106)
                      · exact absurd ⟨h40.1, h40.2.1⟩ (zb_0d.mp h77)
                  · exact absurd (by decide) h49
                · exact absurd (zb_0d.mpr hd) h27
              · exact absurd (zb_0d.mpr h45) h6
            · rw [if_neg (fun h => h41 h.2)] at e
              cases e
              refine go_aload_n (i := 0) (pc := 0) dX12_readsThing_0 rfl rfl ?_
              refine go_bipush (nI 45) (pc := 1) dX12_readsThing_1 (by decide) ?_
              refine go_callV ml_X12_192 mt_X12_takes (pc := 3) dX12_readsThing_3 (c_X12_takes hK (by decide)) (by rfl) rfl (by rfl) (by first | decide | omega) (by decide) rfl rfl (Nat.le_of_ble_eq_true rfl) (fun r σ' hp => ?_)
              obtain ⟨rfl, hK1, hF1⟩ := hp
              dsimp only [zRet]
              rw [if_neg h45] at hK1
              have hn1 : σ'.1 33 18 = nI n := by rw [hF1.2.1 _ (by decide)]; exact hn18
              have hR1 := hRc.fr hF1 (by decide) (by decide)
              refine go_if_eq 23 (pc := 6) dX12_readsThing_6 (by decide) (fun h6 => ?_) (fun h6 => ?_)
              · refine go_aload_n (i := 0) (pc := 23) dX12_readsThing_23 rfl rfl ?_
                refine go_callV ml_X12_158 mt_X12_isDigit (pc := 24) dX12_readsThing_24 (c_X12_isDigit hK1) (by rfl) rfl (by rfl) (by first | decide | omega) (by decide) rfl rfl (Nat.le_of_ble_eq_true rfl) (fun r σ' hp => ?_)
                obtain ⟨rfl, hσ⟩ := hp
                rw [hσ]
                clear hσ
                dsimp only [zRet]
                refine go_if_eq 41 (pc := 27) dX12_readsThing_27 (by decide) (fun h27 => ?_) (fun h27 => ?_)
                · refine go_aload_n (i := 0) (pc := 41) dX12_readsThing_41 rfl rfl ?_
                  refine go_ldcS 2 rfl rfl (pc := 42) dX12_readsThing_42 ?_
                  refine go_callV ml_X12_172 mt_X12_takesOf (pc := 44) dX12_readsThing_44 (c_X12_takesOf (ti := 2) hK1 (by decide)) (by rfl) rfl (by rfl) (by first | decide | omega) (by decide) rfl rfl (Nat.le_of_ble_eq_true rfl) (fun r σ' hp => ?_)
                  obtain ⟨rfl, hK2, hF2⟩ := hp
                  dsimp only [zRet]
                  rw [ea] at hK2 ⊢
                  dsimp only [gM] at hK2 ⊢
                  have hn2 := hF2.2.1 18 (by decide)
                  rw [hn1] at hn2
                  have hR2 := hR1.fr hF2 (by decide) (by decide)
                  refine go_istore_n (i := 1) (pc := 47) dX12_readsThing_47 rfl (by decide) ?_
                  refine go_iload_n (i := 1) (pc := 48) dX12_readsThing_48 rfl rfl ?_
                  refine go_if_lt 63 (pc := 49) dX12_readsThing_49 (by decide) (fun h49 => ?_) (fun h49 => ?_)
                  · refine go_aload_n (i := 0) (pc := 63) dX12_readsThing_63 rfl rfl ?_
                    refine go_geti fl_X12_124 (pc := 64) dX12_readsThing_64 (by rfl) ?_
                    rw [hn2]
                    refine go_iconst (nI 4) (pc := 67) dX12_readsThing_67 (by decide) ?_
                    refine go_icmp_eq 80 (pc := 68) dX12_readsThing_68 (by decide) (fun h68 => ?_) (fun h68 => ?_)
                    · first | rw [nI_eq (by omega) (by omega)] at h68 | rw [zi_eqN (by omega)] at h68 | rw [zi_Neq (by omega)] at h68 | rw [zi_eq] at h68
                      exfalso
                      omega
                    · first | rw [nI_eq (by omega) (by omega)] at h68 | rw [zi_eqN (by omega)] at h68 | rw [zi_Neq (by omega)] at h68 | rw [zi_eq] at h68
                      refine go_aload_n (i := 0) (pc := 71) dX12_readsThing_71 rfl rfl ?_
                      refine go_bipush (nI 40) (pc := 72) dX12_readsThing_72 (by decide) ?_
                      refine go_callV ml_X12_192 mt_X12_takes (pc := 74) dX12_readsThing_74 (c_X12_takes hK2 (by decide)) (by rfl) rfl (by rfl) (by first | decide | omega) (by decide) rfl rfl (Nat.le_of_ble_eq_true rfl) (fun r σ' hp => ?_)
                      obtain ⟨rfl, hK3, hF3⟩ := hp
                      dsimp only [zRet]
                      rw [if_pos ⟨h40.1, h40.2.1⟩] at hK3
                      have hn3 := hF3.2.1 18 (by decide)
                      rw [hn2] at hn3
                      have hR3 := hR2.fr hF3 (by decide) (by decide)
                      refine go_if_ne 82 (pc := 77) dX12_readsThing_77 (by decide) (fun h77 => ?_) (fun h77 => ?_)
                      · refine go_aload_n (i := 0) (pc := 82) dX12_readsThing_82 rfl rfl ?_
                        refine go_dup (pc := 83) dX12_readsThing_83 rfl ?_
                        refine go_geti fl_X12_124 (pc := 84) dX12_readsThing_84 (by rfl) ?_
                        rw [hn3]
                        refine go_iconst (nI 1) (pc := 87) dX12_readsThing_87 (by decide) ?_
                        first | with_reducible refine go_iaddN (pc := 88) dX12_readsThing_88 ?_ | refine go_iadd (pc := 88) dX12_readsThing_88 ?_
                        refine go_puti fp_X12_124 (pc := 89) dX12_readsThing_89 (by rfl) rfl rfl ?_
                        refine go_aload_n (i := 0) (pc := 92) dX12_readsThing_92 rfl rfl ?_
                        refine go_iconst (nI 0) (pc := 93) dX12_readsThing_93 (by decide) ?_
                        refine go_callV ml_X12_218 mt_X12_readsRank (pc := 94) dX12_readsThing_94 (hQ 0 (n + 1) (p + 1) ys _ _ _ _ _ (by decide) ⟨hK3.fr (fs := [18]) (js := []) (Fr9.rf.uS (by simp)) (by decide) (by decide) (by decide), hl40, uS_s _ _ _ _, by omega, hR3.fr (fs := [18]) (js := []) (Fr9.rf.uS (by simp)) (by decide) (by decide), by omega⟩ (by omega) e1) (by rfl) rfl (by rfl) (by first | decide | omega) (by decide) rfl rfl (Nat.le_of_ble_eq_true rfl) (fun r σ' hp => ?_)
                        obtain ⟨rfl, hK4, hn4b, hR4, hF4⟩ := hp
                        dsimp only [zRet]
                        refine go_if_eq 109 (pc := 97) dX12_readsThing_97 (by decide) (fun h97 => ?_) (fun h97 => ?_)
                        · exact absurd h97 (by decide)
                        · refine go_aload_n (i := 0) (pc := 100) dX12_readsThing_100 rfl rfl ?_
                          refine go_bipush (nI 41) (pc := 101) dX12_readsThing_101 (by decide) ?_
                          refine go_callV ml_X12_192 mt_X12_takes (pc := 103) dX12_readsThing_103 (c_X12_takes hK4 (by decide)) (by rfl) rfl (by rfl) (by first | decide | omega) (by decide) rfl rfl (Nat.le_of_ble_eq_true rfl) (fun r σ' hp => ?_)
                          obtain ⟨rfl, hK5, hF5⟩ := hp
                          dsimp only [zRet]
                          have hn5 := hF5.2.1 18 (by decide)
                          rw [hn4b] at hn5
                          have hR5 := hR4.fr hF5 (by decide) (by decide)
                          refine go_if_ne 111 (pc := 106) dX12_readsThing_106 (by decide) (fun h106 => ?_) (fun h106 => ?_)
                          · exact absurd (zb_0d.mpr h41) h106
                          · rw [if_neg h41] at hK5
                            refine go_iconst (nI 0) (pc := 109) dX12_readsThing_109 (by decide) ?_
                            refine go_zreturn (pc := 110) dX12_readsThing_110 rfl (by rfl) ?_
                            exact ⟨rfl, hK5, hn5, hR5, (((((hF1.mono (by simp) (by simp)).tr (hF2.mono (by simp) (by simp))).tr (hF3.mono (by simp) (by simp))).uS (by simp)).tr hF4).tr (hF5.mono (by simp) (by simp))⟩
                      · exact absurd ⟨h40.1, h40.2.1⟩ (zb_0d.mp h77)
                  · exact absurd (by decide) h49
                · exact absurd (zb_0d.mpr hd) h27
              · exact absurd (zb_0d.mpr h45) h6

