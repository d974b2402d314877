/-! reading: the cursor -/
def Cur (σ : zT) (f : Nat → Nat) (a lim : Nat) : Prop := σ.1 33 16 = nI a ∧ σ.1 33 17 = nI lim ∧ a ≤ lim ∧ lim ≤ 80 ∧ ∀ i, i < 80 → σ.2.1 33 9 i = nI (f i) ∧ f i < 256
theorem Cur.fr {fs js : List Nat} {σ σ' : zT} {f : Nat → Nat} {a lim : Nat} (h : Cur σ f a lim) (hf : Fr9 fs js σ σ') (h1 : 16 ∉ fs) (h2 : 17 ∉ fs) (h3 : 9 ∉ js) : Cur σ' f a lim :=
  ⟨by rw [hf.2.1 _ h1]; exact h.1, by rw [hf.2.1 _ h2]; exact h.2.1, h.2.2.1, h.2.2.2.1, fun i hi => by rw [hf.2.2.1 _ h3]; exact h.2.2.2.2 i hi⟩
theorem Cur.mv {fs js : List Nat} {σ σ' : zT} {f : Nat → Nat} {a b lim : Nat} (h : Cur σ f a lim) (hf : Fr9 fs js σ σ') (hb : σ'.1 33 16 = nI b) (hl : b ≤ lim) (h2 : 17 ∉ fs) (h3 : 9 ∉ js) : Cur σ' f b lim :=
  ⟨hb, by rw [hf.2.1 _ h2]; exact h.2.1, hl, h.2.2.2.1, fun i hi => by rw [hf.2.2.1 _ h3]; exact h.2.2.2.2 i hi⟩
def isD (f : Nat → Nat) (a lim : Nat) : Prop := a < lim ∧ 48 ≤ f a ∧ f a ≤ 57
theorem isD_0 {f : Nat → Nat} {a lim m : Nat} (h : ¬ (a < lim ∧ 48 ≤ f a ∧ f a ≤ 57)) : tDig f lim a m = 0 := by
  cases m with
  | zero => rfl
  | succ m => rw [tDig, if_neg h]
def amF (ti v : Nat) : Nat → Nat → Option Nat
  | 0, _ => none
  | fuel + 1, k => if zlen ti ≤ k then none else if zbyt ti k = v then some k else amF ti v fuel (k + 1)
def am (ti v : Nat) : Option Nat := amF ti v 13 0
def amA (ti : Nat) (f : Nat → Nat) (a lim : Nat) : Option Nat := if a < lim then am ti (f a) else none
theorem amF_lt {ti v : Nat} : ∀ {fuel k q : Nat}, amF ti v fuel k = some q → q < zlen ti
  | 0, k, q, h => by cases h
  | fuel + 1, k, q, h => by
    rw [amF] at h
    split at h
    · cases h
    · split at h
      · cases h; omega
      · exact amF_lt h
theorem amA_lt {ti : Nat} {f : Nat → Nat} {a lim q : Nat} (h : amA ti f a lim = some q) : a < lim ∧ q < zlen ti ∧ am ti (f a) = some q := by
  unfold amA at h
  split at h
  · rename_i hl; exact ⟨hl, amF_lt h, h⟩
  · cases h

theorem c_X12_isDigit {E : zE} {σ : zT} {f : Nat → Nat} {a lim : Nat} (hK : Cur σ f a lim) : CalM E 1 yX12_isDigit cX12_isDigit 1 (some .boolean) [.ref (zA E 33 0)] σ (fun r σ' => r = some (.int (zb (decide (a < lim ∧ 48 ≤ f a ∧ f a ≤ 57)))) ∧ σ' = σ) := by
  refine cal_of_go (own := RX12) rfl (by decide +kernel) (Nat.le_of_ble_eq_true rfl) ?_
  obtain ⟨k16, k17, kal, kl80, kt⟩ := hK
  refine go_aload_n (i := 0) (pc := 0) dX12_isDigit_0 rfl rfl ?_
  refine go_geti fl_X12_121 (pc := 1) dX12_isDigit_1 (by rfl) ?_
  rw [k16]
  refine go_aload_n (i := 0) (pc := 4) dX12_isDigit_4 rfl rfl ?_
  refine go_geti fl_X12_133 (pc := 5) dX12_isDigit_5 (by rfl) ?_
  rw [k17]
  refine go_icmp_ge 37 (pc := 8) dX12_isDigit_8 (by decide) (fun h8 => ?_) (fun h8 => ?_)
  · first | rw [nI_leI (by omega) (by omega)] at h8 | rw [zi_leN (by omega)] at h8 | rw [zi_Nle (by omega)] at h8 | rw [zi_le] at h8
    refine go_iconst (nI 0) (pc := 37) dX12_isDigit_37 (by decide) ?_
    refine go_zreturn (pc := 38) dX12_isDigit_38 rfl (by first | rfl | (apply zb_nar)) ?_
    first | exact ⟨zr_t (by omega), rfl⟩ | exact ⟨zr_f (by omega), rfl⟩
  · first | rw [nI_leI (by omega) (by omega)] at h8 | rw [zi_leN (by omega)] at h8 | rw [zi_Nle (by omega)] at h8 | rw [zi_le] at h8
    refine go_aload_n (i := 0) (pc := 11) dX12_isDigit_11 rfl rfl ?_
    refine go_getr2 fl_X12_42 (pc := 12) dX12_isDigit_12 (by rfl) (by rfl) (by rfl) ?_
    refine go_aload_n (i := 0) (pc := 15) dX12_isDigit_15 rfl rfl ?_
    refine go_geti fl_X12_121 (pc := 16) dX12_isDigit_16 (by rfl) ?_
    rw [k16]
    refine go_iaload _ (pc := 19) dX12_isDigit_19 (by first | rfl | (apply zM_ar <;> assumption)) (by first | rfl | (apply zM_jn <;> assumption)) rfl (by first | assumption | omega) ?_
    rw [(kt a (by omega)).1]
    have hfa := (kt a (by omega)).2
    refine go_i2l (pc := 20) dX12_isDigit_20 ?_
    rw [show (nI (f a)).toInt64 = (nI (f a)).toInt64 from rfl]
    refine go_ldc2 (48) kc_X12_140 (pc := 21) dX12_isDigit_21 ?_
    refine go_ldc2 (57) kc_X12_142 (pc := 24) dX12_isDigit_24 ?_
    refine go_callS ml_X12_107 mt_X12_in (pc := 27) dX12_isDigit_27 (c_in (a := nI (f a)) (lo := 48) (hi := 57) (by decide) (by decide)) (by decide) (by decide) rfl rfl (Nat.le_of_ble_eq_true rfl) (fun r σ' hp => ?_)
    obtain ⟨rfl, hσ⟩ := hp
    rw [hσ]
    clear hσ σ'
    dsimp only [zRet]
    rw [nI_toInt (by omega)]
    refine go_if_eq 37 (pc := 30) dX12_isDigit_30 (by decide) (fun h30 => ?_) (fun h30 => ?_)
    · rw [zb_0d] at h30
      refine go_iconst (nI 0) (pc := 37) dX12_isDigit_37 (by decide) ?_
      refine go_zreturn (pc := 38) dX12_isDigit_38 rfl (by first | rfl | (apply zb_nar)) ?_
      first | exact ⟨zr_t (by omega), rfl⟩ | exact ⟨zr_f (by omega), rfl⟩
    · rw [zb_0d] at h30
      have h30 := Decidable.not_not.mp h30
      refine go_iconst (nI 1) (pc := 33) dX12_isDigit_33 (by decide) ?_
      refine go_goto 38 (pc := 34) dX12_isDigit_34 (by decide) ?_
      refine go_zreturn (pc := 38) dX12_isDigit_38 rfl (by first | rfl | (apply zb_nar)) ?_
      first | exact ⟨zr_t (by omega), rfl⟩ | exact ⟨zr_f (by omega), rfl⟩

theorem c_X12_takes {E : zE} {σ : zT} {f : Nat → Nat} {a lim : Nat} {v : Nat} (hK : Cur σ f a lim) (hv : v < 256) : CalM E 1 yX12_takes cX12_takes 3 (some .boolean) [.ref (zA E 33 0), .int (nI v)] σ (fun r σ' => r = some (.int (zb (decide (a < lim ∧ f a = v)))) ∧ Cur σ' f (if a < lim ∧ f a = v then a + 1 else a) lim ∧ Fr9 [16] [] σ σ') := by
  refine cal_of_go (own := RX12) rfl (by decide +kernel) (Nat.le_of_ble_eq_true rfl) ?_
  have hK0 := hK
  obtain ⟨k16, k17, kal, kl80, kt⟩ := hK
  refine go_aload_n (i := 0) (pc := 0) dX12_takes_0 rfl rfl ?_
  refine go_geti fl_X12_121 (pc := 1) dX12_takes_1 (by rfl) ?_
  rw [k16]
  refine go_aload_n (i := 0) (pc := 4) dX12_takes_4 rfl rfl ?_
  refine go_geti fl_X12_133 (pc := 5) dX12_takes_5 (by rfl) ?_
  rw [k17]
  refine go_icmp_ge 28 (pc := 8) dX12_takes_8 (by decide) (fun h8 => ?_) (fun h8 => ?_)
  · first | rw [nI_leI (by omega) (by omega)] at h8 | rw [zi_leN (by omega)] at h8 | rw [zi_Nle (by omega)] at h8 | rw [zi_le] at h8
    refine go_iconst (nI 0) (pc := 28) dX12_takes_28 (by decide) ?_
    refine go_istore_n (i := 2) (pc := 29) dX12_takes_29 rfl (by decide) ?_
    refine go_aload_n (i := 0) (pc := 30) dX12_takes_30 rfl rfl ?_
    refine go_dup (pc := 31) dX12_takes_31 rfl ?_
    refine go_geti fl_X12_121 (pc := 32) dX12_takes_32 (by rfl) ?_
    rw [k16]
    refine go_iload_n (i := 2) (pc := 35) dX12_takes_35 rfl rfl ?_
    refine go_callS ml_X12_136 mt_X12_flag (pc := 36) dX12_takes_36 (c_flagN (by decide)) (by decide) (by decide) rfl rfl (Nat.le_of_ble_eq_true rfl) (fun r σ' hp => ?_)
    obtain ⟨rfl, hσ⟩ := hp
    rw [hσ]
    clear hσ σ'
    dsimp only [zRet]
    first | with_reducible refine go_iaddN (pc := 39) dX12_takes_39 ?_ | refine go_iadd (pc := 39) dX12_takes_39 ?_
    refine go_puti fp_X12_121 (pc := 40) dX12_takes_40 (by rfl) rfl rfl ?_
    refine go_iload_n (i := 2) (pc := 43) dX12_takes_43 rfl rfl ?_
    refine go_zreturn (pc := 44) dX12_takes_44 rfl (by first | rfl | (apply zb_nar)) ?_
    first
      | (rw [if_pos (by omega)]
         exact ⟨zr_t (by omega), hK0.mv (fs := [16]) (js := []) (Fr9.rf.uS (by simp)) (uS_s _ _ _ _) (by omega) (by decide) (by decide), Fr9.rf.uS (by simp)⟩)
      | (rw [if_neg (by omega)]
         exact ⟨zr_f (by omega), hK0.mv (fs := [16]) (js := []) (Fr9.rf.uS (by simp)) (uS_s _ _ _ _) (by omega) (by decide) (by decide), Fr9.rf.uS (by simp)⟩)
  · first | rw [nI_leI (by omega) (by omega)] at h8 | rw [zi_leN (by omega)] at h8 | rw [zi_Nle (by omega)] at h8 | rw [zi_le] at h8
    refine go_aload_n (i := 0) (pc := 11) dX12_takes_11 rfl rfl ?_
    refine go_getr2 fl_X12_42 (pc := 12) dX12_takes_12 (by rfl) (by rfl) (by rfl) ?_
    refine go_aload_n (i := 0) (pc := 15) dX12_takes_15 rfl rfl ?_
    refine go_geti fl_X12_121 (pc := 16) dX12_takes_16 (by rfl) ?_
    rw [k16]
    refine go_iaload _ (pc := 19) dX12_takes_19 (by first | rfl | (apply zM_ar <;> assumption)) (by first | rfl | (apply zM_jn <;> assumption)) rfl (by first | assumption | omega) ?_
    rw [(kt a (by omega)).1]
    have hfa := (kt a (by omega)).2
    refine go_iload_n (i := 1) (pc := 20) dX12_takes_20 rfl rfl ?_
    refine go_icmp_ne 28 (pc := 21) dX12_takes_21 (by decide) (fun h21 => ?_) (fun h21 => ?_)
    · first | rw [nI_eq (by omega) (by omega)] at h21 | rw [zi_eqN (by omega)] at h21 | rw [zi_Neq (by omega)] at h21 | rw [zi_eq] at h21
      refine go_iconst (nI 0) (pc := 28) dX12_takes_28 (by decide) ?_
      refine go_istore_n (i := 2) (pc := 29) dX12_takes_29 rfl (by decide) ?_
      refine go_aload_n (i := 0) (pc := 30) dX12_takes_30 rfl rfl ?_
      refine go_dup (pc := 31) dX12_takes_31 rfl ?_
      refine go_geti fl_X12_121 (pc := 32) dX12_takes_32 (by rfl) ?_
      rw [k16]
      refine go_iload_n (i := 2) (pc := 35) dX12_takes_35 rfl rfl ?_
      refine go_callS ml_X12_136 mt_X12_flag (pc := 36) dX12_takes_36 (c_flagN (by decide)) (by decide) (by decide) rfl rfl (Nat.le_of_ble_eq_true rfl) (fun r σ' hp => ?_)
      obtain ⟨rfl, hσ⟩ := hp
      rw [hσ]
      clear hσ σ'
      dsimp only [zRet]
      first | with_reducible refine go_iaddN (pc := 39) dX12_takes_39 ?_ | refine go_iadd (pc := 39) dX12_takes_39 ?_
      refine go_puti fp_X12_121 (pc := 40) dX12_takes_40 (by rfl) rfl rfl ?_
      refine go_iload_n (i := 2) (pc := 43) dX12_takes_43 rfl rfl ?_
      refine go_zreturn (pc := 44) dX12_takes_44 rfl (by first | rfl | (apply zb_nar)) ?_
      first
        | (rw [if_pos (by omega)]
           exact ⟨zr_t (by omega), hK0.mv (fs := [16]) (js := []) (Fr9.rf.uS (by simp)) (uS_s _ _ _ _) (by omega) (by decide) (by decide), Fr9.rf.uS (by simp)⟩)
        | (rw [if_neg (by omega)]
           exact ⟨zr_f (by omega), hK0.mv (fs := [16]) (js := []) (Fr9.rf.uS (by simp)) (uS_s _ _ _ _) (by omega) (by decide) (by decide), Fr9.rf.uS (by simp)⟩)
    · first | rw [nI_eq (by omega) (by omega)] at h21 | rw [zi_eqN (by omega)] at h21 | rw [zi_Neq (by omega)] at h21 | rw [zi_eq] at h21
      refine go_iconst (nI 1) (pc := 24) dX12_takes_24 (by decide) ?_
      refine go_goto 29 (pc := 25) dX12_takes_25 (by decide) ?_
      refine go_istore_n (i := 2) (pc := 29) dX12_takes_29 rfl (by decide) ?_
      refine go_aload_n (i := 0) (pc := 30) dX12_takes_30 rfl rfl ?_
      refine go_dup (pc := 31) dX12_takes_31 rfl ?_
      refine go_geti fl_X12_121 (pc := 32) dX12_takes_32 (by rfl) ?_
      rw [k16]
      refine go_iload_n (i := 2) (pc := 35) dX12_takes_35 rfl rfl ?_
      refine go_callS ml_X12_136 mt_X12_flag (pc := 36) dX12_takes_36 (c_flagN (by decide)) (by decide) (by decide) rfl rfl (Nat.le_of_ble_eq_true rfl) (fun r σ' hp => ?_)
      obtain ⟨rfl, hσ⟩ := hp
      rw [hσ]
      clear hσ σ'
      dsimp only [zRet]
      first | with_reducible refine go_iaddN (pc := 39) dX12_takes_39 ?_ | refine go_iadd (pc := 39) dX12_takes_39 ?_
      refine go_puti fp_X12_121 (pc := 40) dX12_takes_40 (by rfl) rfl rfl ?_
      refine go_iload_n (i := 2) (pc := 43) dX12_takes_43 rfl rfl ?_
      refine go_zreturn (pc := 44) dX12_takes_44 rfl (by first | rfl | (apply zb_nar)) ?_
      first
        | (rw [if_pos (by omega)]
           exact ⟨zr_t (by omega), hK0.mv (fs := [16]) (js := []) (Fr9.rf.uS (by simp)) (uS_s _ _ _ _) (by omega) (by decide) (by decide), Fr9.rf.uS (by simp)⟩)
        | (rw [if_neg (by omega)]
           exact ⟨zr_f (by omega), hK0.mv (fs := [16]) (js := []) (Fr9.rf.uS (by simp)) (uS_s _ _ _ _) (by omega) (by decide) (by decide), Fr9.rf.uS (by simp)⟩)

theorem c_X12_among {E : zE} {σ : zT} {f : Nat → Nat} {a lim : Nat} {ti : Nat} (hK : Cur σ f a lim) (hti : ti < 8) : CalM E 4 yX12_among cX12_among 3 (some .int) [.ref (zA E 33 0), .ref (zKs E ti)] σ (fun r σ' => r = some (.int (gM (amA ti f a lim))) ∧ σ' = σ) := by
  refine cal_of_go (own := RX12) rfl (by decide +kernel) (Nat.le_of_ble_eq_true rfl) ?_
  obtain ⟨k16, k17, kal, kl80, kt⟩ := hK
  have hlb := zlen_b ti hti
  have loop : ∀ (fuel k : Nat), k + fuel = 13 → (a < lim → am ti (f a) = amF ti (f a) fuel k) → GoM E 4 RX12 cX12_among 3 (some .int) (fun r σ' => r = some (.int (gM (amA ti f a lim))) ∧ σ' = σ) σ 2 [(0, .ref (zA E 33 0)), (1, .ref (zKs E ti)), (2, .int (nI k))] [] := by
    intro fuel
    induction fuel with
    | zero =>
      intro k hk ha
      refine go_iload_n (i := 2) (pc := 2) dX12_among_2 rfl rfl ?_
      refine go_aload_n (i := 1) (pc := 3) dX12_among_3 rfl rfl ?_
      refine go_callT ti hti ml_X12_144 mt_J0_length_8abf5 (pc := 4) dX12_among_4 (c_J0_length_8abf5 hti) rfl (by decide) (by decide) rfl rfl (Nat.le_of_ble_eq_true rfl) (fun r σ' hp => ?_)
      obtain ⟨rfl, hσ⟩ := hp
      rw [hσ]
      clear hσ σ'
      dsimp only [zRet]
      refine go_icmp_ge 46 (pc := 7) dX12_among_7 (by decide) (fun h7 => ?_) (fun h7 => ?_)
      · first | rw [nI_leI (by omega) (by omega)] at h7 | rw [zi_leN (by omega)] at h7 | rw [zi_Nle (by omega)] at h7 | rw [zi_le] at h7
        unfold amA
        by_cases hal : a < lim
        · rw [if_pos hal, ha hal, amF]
          refine go_iconst (-1) (pc := 46) dX12_among_46 (by decide) ?_
          refine go_ireturn (pc := 47) dX12_among_47 rfl ?_
          exact ⟨rfl, rfl⟩
        · rw [if_neg hal]
          refine go_iconst (-1) (pc := 46) dX12_among_46 (by decide) ?_
          refine go_ireturn (pc := 47) dX12_among_47 rfl ?_
          exact ⟨rfl, rfl⟩
      · first | rw [nI_leI (by omega) (by omega)] at h7 | rw [zi_leN (by omega)] at h7 | rw [zi_Nle (by omega)] at h7 | rw [zi_le] at h7
        omega
    | succ fuel ih =>
      intro k hk ha
      refine go_iload_n (i := 2) (pc := 2) dX12_among_2 rfl rfl ?_
      refine go_aload_n (i := 1) (pc := 3) dX12_among_3 rfl rfl ?_
      refine go_callT ti hti ml_X12_144 mt_J0_length_8abf5 (pc := 4) dX12_among_4 (c_J0_length_8abf5 hti) rfl (by decide) (by decide) rfl rfl (Nat.le_of_ble_eq_true rfl) (fun r σ' hp => ?_)
      obtain ⟨rfl, hσ⟩ := hp
      rw [hσ]
      clear hσ σ'
      dsimp only [zRet]
      refine go_icmp_ge 46 (pc := 7) dX12_among_7 (by decide) (fun h7 => ?_) (fun h7 => ?_)
      · first | rw [nI_leI (by omega) (by omega)] at h7 | rw [zi_leN (by omega)] at h7 | rw [zi_Nle (by omega)] at h7 | rw [zi_le] at h7
        refine go_iconst (-1) (pc := 46) dX12_among_46 (by decide) ?_
        refine go_ireturn (pc := 47) dX12_among_47 rfl ?_
        unfold amA
        by_cases hal : a < lim
        · rw [if_pos hal, ha hal, amF, if_pos (by omega)]
          exact ⟨rfl, rfl⟩
        · rw [if_neg hal]
          exact ⟨rfl, rfl⟩
      · first | rw [nI_leI (by omega) (by omega)] at h7 | rw [zi_leN (by omega)] at h7 | rw [zi_Nle (by omega)] at h7 | rw [zi_le] at h7
        refine go_aload_n (i := 0) (pc := 10) dX12_among_10 rfl rfl ?_
        refine go_geti fl_X12_121 (pc := 11) dX12_among_11 (by rfl) ?_
        rw [k16]
        refine go_aload_n (i := 0) (pc := 14) dX12_among_14 rfl rfl ?_
        refine go_geti fl_X12_133 (pc := 15) dX12_among_15 (by rfl) ?_
        rw [k17]
        refine go_icmp_ge 46 (pc := 18) dX12_among_18 (by decide) (fun h18 => ?_) (fun h18 => ?_)
        · first | rw [nI_leI (by omega) (by omega)] at h18 | rw [zi_leN (by omega)] at h18 | rw [zi_Nle (by omega)] at h18 | rw [zi_le] at h18
          refine go_iconst (-1) (pc := 46) dX12_among_46 (by decide) ?_
          refine go_ireturn (pc := 47) dX12_among_47 rfl ?_
          unfold amA
          by_cases hal : a < lim
          · rw [if_pos hal, ha hal, amF, if_pos (by omega)]
            exact ⟨rfl, rfl⟩
          · rw [if_neg hal]
            exact ⟨rfl, rfl⟩
        · first | rw [nI_leI (by omega) (by omega)] at h18 | rw [zi_leN (by omega)] at h18 | rw [zi_Nle (by omega)] at h18 | rw [zi_le] at h18
          refine go_aload_n (i := 1) (pc := 21) dX12_among_21 rfl rfl ?_
          refine go_iload_n (i := 2) (pc := 22) dX12_among_22 rfl rfl ?_
          refine go_callT ti hti ml_X12_150 mt_J0_charAt_5068e (pc := 23) dX12_among_23 (c_J0_charAt_5068e hti (by omega)) rfl (by decide) (by decide) rfl rfl (Nat.le_of_ble_eq_true rfl) (fun r σ' hp => ?_)
          obtain ⟨rfl, hσ⟩ := hp
          rw [hσ]
          clear hσ σ'
          dsimp only [zRet]
          have hzb := (zbyt_b ti hti k (by omega)).2
          refine go_aload_n (i := 0) (pc := 26) dX12_among_26 rfl rfl ?_
          refine go_getr2 fl_X12_42 (pc := 27) dX12_among_27 (by rfl) (by rfl) (by rfl) ?_
          refine go_aload_n (i := 0) (pc := 30) dX12_among_30 rfl rfl ?_
          refine go_geti fl_X12_121 (pc := 31) dX12_among_31 (by rfl) ?_
          rw [k16]
          refine go_iaload _ (pc := 34) dX12_among_34 (by first | rfl | (apply zM_ar <;> assumption)) (by first | rfl | (apply zM_jn <;> assumption)) rfl (by first | assumption | omega) ?_
          rw [(kt a (by omega)).1]
          have hfa := (kt a (by omega)).2
          refine go_icmp_ne 40 (pc := 35) dX12_among_35 (by decide) (fun h35 => ?_) (fun h35 => ?_)
          · first | rw [nI_eq (by omega) (by omega)] at h35 | rw [zi_eqN (by omega)] at h35 | rw [zi_Neq (by omega)] at h35 | rw [zi_eq] at h35
            refine go_iincN (pc := 40) dX12_among_40 rfl (by decide) ?_
            refine go_goto 2 (pc := 43) dX12_among_43 (by decide) ?_
            refine ih (k + 1) (by omega) (fun hal => ?_)
            rw [ha hal, amF, if_neg (by omega), if_neg (by omega)]
          · first | rw [nI_eq (by omega) (by omega)] at h35 | rw [zi_eqN (by omega)] at h35 | rw [zi_Neq (by omega)] at h35 | rw [zi_eq] at h35
            refine go_iload_n (i := 2) (pc := 38) dX12_among_38 rfl rfl ?_
            refine go_ireturn (pc := 39) dX12_among_39 rfl ?_
            unfold amA
            rw [if_pos (by omega), ha (by omega), amF, if_neg (by omega), if_pos (by omega)]
            exact ⟨rfl, rfl⟩
  refine go_iconst (nI 0) (pc := 0) dX12_among_0 (by decide) ?_
  refine go_istore_n (i := 2) (pc := 1) dX12_among_1 rfl (by decide) ?_
  exact loop 13 0 rfl (fun _ => rfl)

theorem gM_lt {e : Option Nat} (h : ∀ q, e = some q → q < 2 ^ 31) : (gM e).toInt < 0 ↔ e = none := by
  cases e with
  | none => exact ⟨fun _ => rfl, fun _ => by decide⟩
  | some q => have := h q rfl; rw [gM, nI_toInt (by omega)]; exact ⟨fun q => by omega, fun q => by cases q⟩

theorem c_X12_takesOf {E : zE} {σ : zT} {f : Nat → Nat} {a lim : Nat} {ti : Nat} (hK : Cur σ f a lim) (hti : ti < 8) : CalM E 5 yX12_takesOf cX12_takesOf 3 (some .int) [.ref (zA E 33 0), .ref (zKs E ti)] σ (fun r σ' => r = some (.int (gM (amA ti f a lim))) ∧ Cur σ' f (match (amA ti f a lim) with | none => a | some _ => a + 1) lim ∧ Fr9 [16] [] σ σ') := by
  refine cal_of_go (own := RX12) rfl (by decide +kernel) (Nat.le_of_ble_eq_true rfl) ?_
  have hK0 := hK
  obtain ⟨k16, k17, kal, kl80, kt⟩ := hK
  have hlb := zlen_b ti hti
  have hal : ∀ q, (amA ti f a lim) = some q → q < 2 ^ 31 := fun q h => by have := (amA_lt h).2.1; omega
  refine go_aload_n (i := 0) (pc := 0) dX12_takesOf_0 rfl rfl ?_
  refine go_aload_n (i := 1) (pc := 1) dX12_takesOf_1 rfl rfl ?_
  refine go_callV ml_X12_154 mt_X12_among (pc := 2) dX12_takesOf_2 (c_X12_among hK0 hti) (by rfl) rfl (by rfl) (by decide) (by decide) rfl rfl (Nat.le_of_ble_eq_true rfl) (fun r σ' hp => ?_)
  obtain ⟨rfl, hσ⟩ := hp
  rw [hσ]
  clear hσ σ'
  dsimp only [zRet]
  refine go_istore_n (i := 2) (pc := 5) dX12_takesOf_5 rfl (by decide) ?_
  refine go_aload_n (i := 0) (pc := 6) dX12_takesOf_6 rfl rfl ?_
  refine go_dup (pc := 7) dX12_takesOf_7 rfl ?_
  refine go_geti fl_X12_121 (pc := 8) dX12_takesOf_8 (by rfl) ?_
  rw [k16]
  refine go_iload_n (i := 2) (pc := 11) dX12_takesOf_11 rfl rfl ?_
  refine go_if_lt 19 (pc := 12) dX12_takesOf_12 (by decide) (fun h12 => ?_) (fun h12 => ?_)
  · rw [zi_lt0, gM_lt hal] at h12
    refine go_iconst (nI 0) (pc := 19) dX12_takesOf_19 (by decide) ?_
    refine go_callS ml_X12_136 mt_X12_flag (pc := 20) dX12_takesOf_20 (c_flagN (by decide)) (by decide) (by decide) rfl rfl (Nat.le_of_ble_eq_true rfl) (fun r σ' hp => ?_)
    obtain ⟨rfl, hσ⟩ := hp
    rw [hσ]
    clear hσ σ'
    dsimp only [zRet]
    first | with_reducible refine go_iaddN (pc := 23) dX12_takesOf_23 ?_ | refine go_iadd (pc := 23) dX12_takesOf_23 ?_
    refine go_puti fp_X12_121 (pc := 24) dX12_takesOf_24 (by rfl) rfl rfl ?_
    refine go_iload_n (i := 2) (pc := 27) dX12_takesOf_27 rfl rfl ?_
    refine go_ireturn (pc := 28) dX12_takesOf_28 rfl ?_
    first
      | (rw [h12]
         exact ⟨rfl, hK0.mv (fs := [16]) (js := []) (Fr9.rf.uS (by simp)) (uS_s _ _ _ _) (by omega) (by decide) (by decide), Fr9.rf.uS (by simp)⟩)
      | (rw [hq]
         exact ⟨rfl, hK0.mv (fs := [16]) (js := []) (Fr9.rf.uS (by simp)) (uS_s _ _ _ _) (by dsimp only; omega) (by decide) (by decide), Fr9.rf.uS (by simp)⟩)
  · rw [zi_lt0, gM_lt hal] at h12
    obtain ⟨q, hq⟩ := Option.ne_none_iff_exists'.mp h12
    have hq2 := amA_lt hq
    refine go_iconst (nI 1) (pc := 15) dX12_takesOf_15 (by decide) ?_
    refine go_goto 20 (pc := 16) dX12_takesOf_16 (by decide) ?_
    refine go_callS ml_X12_136 mt_X12_flag (pc := 20) dX12_takesOf_20 (c_flagN (by decide)) (by decide) (by decide) rfl rfl (Nat.le_of_ble_eq_true rfl) (fun r σ' hp => ?_)
    obtain ⟨rfl, hσ⟩ := hp
    rw [hσ]
    clear hσ σ'
    dsimp only [zRet]
    first | with_reducible refine go_iaddN (pc := 23) dX12_takesOf_23 ?_ | refine go_iadd (pc := 23) dX12_takesOf_23 ?_
    refine go_puti fp_X12_121 (pc := 24) dX12_takesOf_24 (by rfl) rfl rfl ?_
    refine go_iload_n (i := 2) (pc := 27) dX12_takesOf_27 rfl rfl ?_
    refine go_ireturn (pc := 28) dX12_takesOf_28 rfl ?_
    first
      | (rw [h12]
         exact ⟨rfl, hK0.mv (fs := [16]) (js := []) (Fr9.rf.uS (by simp)) (uS_s _ _ _ _) (by omega) (by decide) (by decide), Fr9.rf.uS (by simp)⟩)
      | (rw [hq]
         exact ⟨rfl, hK0.mv (fs := [16]) (js := []) (Fr9.rf.uS (by simp)) (uS_s _ _ _ _) (by dsimp only; omega) (by decide) (by decide), Fr9.rf.uS (by simp)⟩)

theorem c_X12_digitIn {E : zE} {σ : zT} {f : Nat → Nat} {a lim : Nat} {lo hi : Nat} (hK : Cur σ f a lim) (hlo : lo ≤ 9) (hhi : hi ≤ 9) : CalM E 1 yX12_digitIn cX12_digitIn 3 (some .int) [.ref (zA E 33 0), .int (nI lo), .int (nI hi)] σ (fun r σ' => r = some (.int (if a < lim ∧ 48 + lo ≤ f a ∧ f a ≤ 48 + hi then nI (f a - 48) else -1)) ∧ Cur σ' f (if a < lim ∧ 48 + lo ≤ f a ∧ f a ≤ 48 + hi then a + 1 else a) lim ∧ Fr9 [16] [] σ σ') := by
  refine cal_of_go (own := RX12) rfl (by decide +kernel) (Nat.le_of_ble_eq_true rfl) ?_
  have hK0 := hK
  obtain ⟨k16, k17, kal, kl80, kt⟩ := hK
  refine go_aload_n (i := 0) (pc := 0) dX12_digitIn_0 rfl rfl ?_
  refine go_geti fl_X12_121 (pc := 1) dX12_digitIn_1 (by rfl) ?_
  rw [k16]
  refine go_aload_n (i := 0) (pc := 4) dX12_digitIn_4 rfl rfl ?_
  refine go_geti fl_X12_133 (pc := 5) dX12_digitIn_5 (by rfl) ?_
  rw [k17]
  refine go_icmp_ge 34 (pc := 8) dX12_digitIn_8 (by decide) (fun h8 => ?_) (fun h8 => ?_)
  · first | rw [nI_leI (by omega) (by omega)] at h8 | rw [zi_leN (by omega)] at h8 | rw [zi_Nle (by omega)] at h8 | rw [zi_le] at h8
    refine go_iconst (-1) (pc := 34) dX12_digitIn_34 (by decide) ?_
    refine go_ireturn (pc := 35) dX12_digitIn_35 rfl ?_
    rw [if_neg (by omega), if_neg (by omega)]
    exact ⟨rfl, hK0, Fr9.rf⟩
  · first | rw [nI_leI (by omega) (by omega)] at h8 | rw [zi_leN (by omega)] at h8 | rw [zi_Nle (by omega)] at h8 | rw [zi_le] at h8
    refine go_aload_n (i := 0) (pc := 11) dX12_digitIn_11 rfl rfl ?_
    refine go_getr2 fl_X12_42 (pc := 12) dX12_digitIn_12 (by rfl) (by rfl) (by rfl) ?_
    refine go_aload_n (i := 0) (pc := 15) dX12_digitIn_15 rfl rfl ?_
    refine go_geti fl_X12_121 (pc := 16) dX12_digitIn_16 (by rfl) ?_
    rw [k16]
    refine go_iaload _ (pc := 19) dX12_digitIn_19 (by first | rfl | (apply zM_ar <;> assumption)) (by first | rfl | (apply zM_jn <;> assumption)) rfl (by first | assumption | omega) ?_
    rw [(kt a (by omega)).1]
    have hfa := (kt a (by omega)).2
    refine go_bipush (nI 48) (pc := 20) dX12_digitIn_20 (by decide) ?_
    refine go_isub (pc := 22) dX12_digitIn_22 ?_
    refine go_i2l (pc := 23) dX12_digitIn_23 ?_
    refine go_iload_n (i := 1) (pc := 24) dX12_digitIn_24 rfl rfl ?_
    refine go_i2l (pc := 25) dX12_digitIn_25 ?_
    refine go_iload_n (i := 2) (pc := 26) dX12_digitIn_26 rfl rfl ?_
    refine go_i2l (pc := 27) dX12_digitIn_27 ?_
    refine go_callS ml_X12_107 mt_X12_in (pc := 28) dX12_digitIn_28 (c_in (a := nI (f a) - nI 48) (lo := (lo : Int)) (hi := (hi : Int)) (by rw [zl_i, nI_toInt (by omega)]) (by rw [zl_i, nI_toInt (by omega)])) (by decide) (by decide) rfl rfl (Nat.le_of_ble_eq_true rfl) (fun r σ' hp => ?_)
    obtain ⟨rfl, hσ⟩ := hp
    rw [hσ]
    clear hσ σ'
    dsimp only [zRet]
    rw [pk_sub_toInt (by omega) (by decide)]
    refine go_if_ne 36 (pc := 31) dX12_digitIn_31 (by decide) (fun h31 => ?_) (fun h31 => ?_)
    · first | rw [zb_0d] at h31 | rw [zn_eq0 (by omega)] at h31 | rw [zi_eq0] at h31
      refine go_aload_n (i := 0) (pc := 36) dX12_digitIn_36 rfl rfl ?_
      refine go_dup (pc := 37) dX12_digitIn_37 rfl ?_
      refine go_geti fl_X12_121 (pc := 38) dX12_digitIn_38 (by rfl) ?_
      rw [k16]
      refine go_iconst (nI 1) (pc := 41) dX12_digitIn_41 (by decide) ?_
      first | with_reducible refine go_iaddN (pc := 42) dX12_digitIn_42 ?_ | refine go_iadd (pc := 42) dX12_digitIn_42 ?_
      refine go_puti fp_X12_121 (pc := 43) dX12_digitIn_43 (by rfl) rfl rfl ?_
      refine go_aload_n (i := 0) (pc := 46) dX12_digitIn_46 rfl rfl ?_
      refine go_getr2 fl_X12_42 (pc := 47) dX12_digitIn_47 (by rfl) (by rfl) (by rfl) ?_
      refine go_aload_n (i := 0) (pc := 50) dX12_digitIn_50 rfl rfl ?_
      refine go_geti fl_X12_121 (pc := 51) dX12_digitIn_51 (by rfl) ?_
      rw [uS_s]
      refine go_iconst (nI 1) (pc := 54) dX12_digitIn_54 (by decide) ?_
      refine go_isubN (pc := 55) dX12_digitIn_55 (by omega) ?_
      refine go_iaload (a + 1 - 1) (pc := 56) dX12_digitIn_56 rfl rfl rfl (by omega) ?_
      rw [show (uS σ 33 16 (nI (a + 1))).2.1 33 9 (a + 1 - 1) = nI (f a) from (kt a (by omega)).1]
      refine go_bipush (nI 48) (pc := 57) dX12_digitIn_57 (by decide) ?_
      refine go_isubN (pc := 59) dX12_digitIn_59 (by omega) ?_
      refine go_ireturn (pc := 60) dX12_digitIn_60 rfl ?_
      rw [if_pos (by omega), if_pos (by omega)]
      exact ⟨rfl, hK0.mv (fs := [16]) (js := []) (Fr9.rf.uS (by simp)) (uS_s _ _ _ _) (by omega) (by decide) (by decide), Fr9.rf.uS (by simp)⟩
    · first | rw [zb_0d] at h31 | rw [zn_eq0 (by omega)] at h31 | rw [zi_eq0] at h31
      refine go_iconst (-1) (pc := 34) dX12_digitIn_34 (by decide) ?_
      refine go_ireturn (pc := 35) dX12_digitIn_35 rfl ?_
      rw [if_neg (by omega), if_neg (by omega)]
      exact ⟨rfl, hK0, Fr9.rf⟩

theorem tNum_s {f : Nat → Nat} : ∀ n a v, tNum f a (n + 1) v = 10 * tNum f a n v + (f (a + n) - 48)
  | 0, a, v => rfl
  | n + 1, a, v => by
    show tNum f (a + 1) (n + 1) (10 * v + (f a - 48)) = 10 * tNum f (a + 1) n (10 * v + (f a - 48)) + (f (a + (n + 1)) - 48)
    rw [tNum_s n (a + 1), show a + 1 + n = a + (n + 1) by omega]
theorem tDig_s {f : Nat → Nat} {lim a : Nat} : ∀ (k m : Nat), k ≤ tDig f lim a m → tDig f lim a m = k + tDig f lim (a + k) (m - k)
  | 0, m, _ => by simp
  | k + 1, m, h => by
    cases m with
    | zero => rw [tDig] at h; omega
    | succ m =>
      rw [tDig] at h ⊢
      split at h
      · rename_i hd
        rw [if_pos hd]
        have := tDig_s (f := f) (lim := lim) (a := a + 1) k m (by omega)
        rw [this, show a + 1 + k = a + (k + 1) by omega, show m + 1 - (k + 1) = m - k by omega]
        omega
      · omega
theorem tNum_b {f : Nat → Nat} {a : Nat} : ∀ n, (∀ i, i < n → f (a + i) ≤ 57) → tNum f a n 0 < 10 ^ n
  | 0, _ => (by decide : 0 < 10 ^ 0)
  | n + 1, h => by
    rw [tNum_s, Nat.pow_succ]
    have h1 := tNum_b n (fun i hi => h i (by omega))
    have h2 := h n (by omega)
    omega

theorem c_X12_number {E : zE} {σ : zT} {f : Nat → Nat} {a lim : Nat} {D : Nat} (hK : Cur σ f a lim) (hD : D ≤ 3) (hD1 : 1 ≤ D) : CalM E 2 yX12_number cX12_number 4 (some .int) [.ref (zA E 33 0), .int (nI D)] σ (fun r σ' => r = some (.int (if tDig f lim a D = 0 then -1 else nI (tNum f a (tDig f lim a D) 0))) ∧ Cur σ' f (a + tDig f lim a D) lim ∧ Fr9 [16] [] σ σ') := by
  refine cal_of_go (own := RX12) rfl (by decide +kernel) (Nat.le_of_ble_eq_true rfl) ?_
  have loop : 0 < tDig f lim a D → ∀ (k : Nat) (τ : zT), k ≤ tDig f lim a D → Cur τ f (a + k) lim → Fr9 [16] [] σ τ → GoM E 2 RX12 cX12_number 4 (some .int) (fun r σ' => r = some (.int (if tDig f lim a D = 0 then -1 else nI (tNum f a (tDig f lim a D) 0))) ∧ Cur σ' f (a + tDig f lim a D) lim ∧ Fr9 [16] [] σ σ') τ 13 [(0, .ref (zA E 33 0)), (1, .int (nI D)), (2, .int (nI (tNum f a k 0))), (3, .int (nI k))] [] := by
    intro h0 k
    induction hz : tDig f lim a D - k using Nat.strongRecOn generalizing k with
    | ind z ih =>
      intro τ hk hKt hF
      have hdl := tDig_le f lim a D
      have hds := tDig_s (f := f) (lim := lim) (a := a) k D hk
      have hin := fun i (hi : i < tDig f lim a D) => tDig_in (f := f) (lim := lim) (a := a) (m := D) hi
      have hnb := tNum_b (f := f) (a := a) k (fun i hi => (hin i (by omega)).2.2)
      have hn3 : 10 ^ k ≤ 10 ^ 3 := Nat.pow_le_pow_right (by decide) (by omega)
      have hKt0 := hKt
      obtain ⟨k16, k17, kal, kl80, kt⟩ := hKt
      refine go_iload_n (i := 3) (pc := 13) dX12_number_13 rfl rfl ?_
      refine go_iload_n (i := 1) (pc := 14) dX12_number_14 rfl rfl ?_
      refine go_icmp_ge 59 (pc := 15) dX12_number_15 (by decide) (fun h15 => ?_) (fun h15 => ?_)
      · first | rw [nI_leI (by omega) (by omega)] at h15 | rw [zi_leN (by omega)] at h15 | rw [zi_Nle (by omega)] at h15 | rw [zi_le] at h15
        have e : tDig f lim a D = k := by omega
        refine go_iload_n (i := 2) (pc := 59) dX12_number_59 rfl rfl ?_
        refine go_ireturn (pc := 60) dX12_number_60 rfl ?_
        rw [if_neg (by omega)]
        rw [show tDig f lim a D = k by omega]
        exact ⟨rfl, hKt0, hF⟩
      · first | rw [nI_leI (by omega) (by omega)] at h15 | rw [zi_leN (by omega)] at h15 | rw [zi_Nle (by omega)] at h15 | rw [zi_le] at h15
        refine go_aload_n (i := 0) (pc := 18) dX12_number_18 rfl rfl ?_
        refine go_callV ml_X12_158 mt_X12_isDigit (pc := 19) dX12_number_19 (c_X12_isDigit hKt0) (by rfl) rfl (by rfl) (by decide) (by decide) rfl rfl (Nat.le_of_ble_eq_true rfl) (fun r σ' hp => ?_)
        obtain ⟨rfl, hσ⟩ := hp
        rw [hσ]
        clear hσ
        dsimp only [zRet]
        refine go_if_eq 59 (pc := 22) dX12_number_22 (by decide) (fun h22 => ?_) (fun h22 => ?_)
        · rw [zb_0d] at h22
          have e : tDig f lim a D = k := by rw [hds, isD_0 h22]; rfl
          refine go_iload_n (i := 2) (pc := 59) dX12_number_59 rfl rfl ?_
          refine go_ireturn (pc := 60) dX12_number_60 rfl ?_
          rw [if_neg (by omega)]
          rw [show tDig f lim a D = k by omega]
          exact ⟨rfl, hKt0, hF⟩
        · rw [zb_0d] at h22
          have h22 := Decidable.not_not.mp h22
          refine go_bipush (nI 10) (pc := 25) dX12_number_25 (by decide) ?_
          refine go_iload_n (i := 2) (pc := 27) dX12_number_27 rfl rfl ?_
          first | with_reducible refine go_imulN (pc := 28) dX12_number_28 ?_ | refine go_imul (pc := 28) dX12_number_28 ?_
          refine go_aload_n (i := 0) (pc := 29) dX12_number_29 rfl rfl ?_
          refine go_getr2 fl_X12_42 (pc := 30) dX12_number_30 (by rfl) (by rfl) (by rfl) ?_
          refine go_aload_n (i := 0) (pc := 33) dX12_number_33 rfl rfl ?_
          refine go_geti fl_X12_121 (pc := 34) dX12_number_34 (by rfl) ?_
          rw [k16]
          refine go_iaload (a + k) (pc := 37) dX12_number_37 rfl rfl rfl (by omega) ?_
          have hlt : k < tDig f lim a D := by
            rw [hds, show D - k = (D - k - 1) + 1 by omega, tDig, if_pos h22]; omega
          have hfd := hin k hlt
          rw [(kt (a + k) (by omega)).1]
          first | with_reducible refine go_iaddN (pc := 38) dX12_number_38 ?_ | refine go_iadd (pc := 38) dX12_number_38 ?_
          refine go_bipush (nI 48) (pc := 39) dX12_number_39 (by decide) ?_
          refine go_isubN (pc := 41) dX12_number_41 (by omega) ?_
          refine go_istore_n (i := 2) (pc := 42) dX12_number_42 rfl (by decide) ?_
          refine go_aload_n (i := 0) (pc := 43) dX12_number_43 rfl rfl ?_
          refine go_dup (pc := 44) dX12_number_44 rfl ?_
          refine go_geti fl_X12_121 (pc := 45) dX12_number_45 (by rfl) ?_
          rw [k16]
          refine go_iconst (nI 1) (pc := 48) dX12_number_48 (by decide) ?_
          first | with_reducible refine go_iaddN (pc := 49) dX12_number_49 ?_ | refine go_iadd (pc := 49) dX12_number_49 ?_
          refine go_puti fp_X12_121 (pc := 50) dX12_number_50 (by rfl) rfl rfl ?_
          refine go_iincN (pc := 53) dX12_number_53 rfl (by decide) ?_
          refine go_goto 13 (pc := 56) dX12_number_56 (by decide) ?_
          rw [show 10 * tNum f a k 0 + f (a + k) - 48 = tNum f a (k + 1) 0 by rw [tNum_s]; omega]
          refine ih (tDig f lim a D - (k + 1)) (by omega) (k + 1) rfl _ (by omega) ?_ (hF.uS (by simp))
          exact hKt0.mv (fs := [16]) (js := []) (Fr9.rf.uS (by simp)) (uS_s _ _ _ _) (by omega) (by decide) (by decide)
  refine go_aload_n (i := 0) (pc := 0) dX12_number_0 rfl rfl ?_
  refine go_callV ml_X12_158 mt_X12_isDigit (pc := 1) dX12_number_1 (c_X12_isDigit hK) (by rfl) rfl (by rfl) (by decide) (by decide) rfl rfl (Nat.le_of_ble_eq_true rfl) (fun r σ' hp => ?_)
  obtain ⟨rfl, hσ⟩ := hp
  rw [hσ]
  clear hσ
  dsimp only [zRet]
  refine go_if_ne 9 (pc := 4) dX12_number_4 (by decide) (fun h4 => ?_) (fun h4 => ?_)
  · rw [zb_0d] at h4
    have h4 := Decidable.not_not.mp h4
    have h0 : 0 < tDig f lim a D := by rw [show D = (D - 1) + 1 by omega, tDig, if_pos h4]; omega
    refine go_iconst (nI 0) (pc := 9) dX12_number_9 (by decide) ?_
    refine go_istore_n (i := 2) (pc := 10) dX12_number_10 rfl (by decide) ?_
    refine go_iconst (nI 0) (pc := 11) dX12_number_11 (by decide) ?_
    refine go_istore_n (i := 3) (pc := 12) dX12_number_12 rfl (by decide) ?_
    exact loop h0 0 σ (Nat.zero_le _) hK Fr9.rf
  · rw [zb_0d] at h4
    have e0 := isD_0 (m := D) h4
    refine go_iconst (-1) (pc := 7) dX12_number_7 (by decide) ?_
    refine go_ireturn (pc := 8) dX12_number_8 rfl ?_
    rw [e0, if_pos rfl]
    exact ⟨rfl, hK, Fr9.rf⟩

def faO (n most : Nat) (b : Bool) (a lim : Nat) : Int32 := if most < n ∧ ((b = true ∧ a = lim) ∨ most ≤ a) then mF most else if b = true ∧ a = lim then nI 0 else mF a

theorem c_X12_faultOf {E : zE} {σ : zT} {f : Nat → Nat} {a lim : Nat} {n most : Nat} {b : Bool} (hK : Cur σ f a lim) (hn : n ≤ 80) (hm : most ≤ 80) : CalM E 1 yX12_faultOf cX12_faultOf 5 (some .int) [.ref (zA E 33 0), .int (nI n), .int (nI most), .int (zb b)] σ (fun r σ' => r = some (.int (faO n most b a lim)) ∧ σ' = σ) := by
  refine cal_of_go (own := RX12) rfl (by decide +kernel) (Nat.le_of_ble_eq_true rfl) ?_
  obtain ⟨k16, k17, kal, kl80, kt⟩ := hK
  cases b with
  | true =>
    refine go_iload_n (i := 3) (pc := 0) dX12_faultOf_0 rfl rfl ?_
    refine go_if_eq 19 (pc := 1) dX12_faultOf_1 (by decide) (fun h1 => ?_) (fun h1 => ?_)
    · exact absurd h1 (by decide)
    · refine go_aload_n (i := 0) (pc := 4) dX12_faultOf_4 rfl rfl ?_
      refine go_geti fl_X12_121 (pc := 5) dX12_faultOf_5 (by rfl) ?_
      rw [k16]
      refine go_aload_n (i := 0) (pc := 8) dX12_faultOf_8 rfl rfl ?_
      refine go_geti fl_X12_133 (pc := 9) dX12_faultOf_9 (by rfl) ?_
      rw [k17]
      refine go_icmp_ne 19 (pc := 12) dX12_faultOf_12 (by decide) (fun h12 => ?_) (fun h12 => ?_)
      · first | rw [nI_eq (by omega) (by omega)] at h12 | rw [zi_eqN (by omega)] at h12 | rw [zi_Neq (by omega)] at h12 | rw [zi_eq] at h12
        refine go_iconst (nI 0) (pc := 19) dX12_faultOf_19 (by decide) ?_
        refine go_istore (pc := 20) dX12_faultOf_20 (by decide) ?_
        refine go_iload_n (i := 1) (pc := 22) dX12_faultOf_22 rfl rfl ?_
        refine go_iload_n (i := 2) (pc := 23) dX12_faultOf_23 rfl rfl ?_
        refine go_icmp_le 44 (pc := 24) dX12_faultOf_24 (by decide) (fun h24 => ?_) (fun h24 => ?_)
        · first | rw [nI_leI (by omega) (by omega)] at h24 | rw [zi_leN (by omega)] at h24 | rw [zi_Nle (by omega)] at h24 | rw [zi_le] at h24
          refine go_iload (pc := 44) dX12_faultOf_44 rfl ?_
          refine go_if_eq 53 (pc := 46) dX12_faultOf_46 (by decide) (fun h46 => ?_) (fun h46 => ?_)
          · first | rw [zb_0d] at h46 | rw [zn_eq0 (by omega)] at h46 | rw [zi_eq0] at h46
            try (exfalso; omega)
            all_goals (
              refine go_iconst (-1) (pc := 53) dX12_faultOf_53 (by decide) ?_
              refine go_aload_n (i := 0) (pc := 54) dX12_faultOf_54 rfl rfl ?_
              refine go_geti fl_X12_121 (pc := 55) dX12_faultOf_55 (by rfl) ?_
              rw [k16]
              refine go_isub (pc := 58) dX12_faultOf_58 ?_
              refine go_ireturn (pc := 59) dX12_faultOf_59 rfl ?_
              refine ⟨?_, rfl⟩
              unfold faO mF
              first
                | rw [if_pos ⟨by omega, Or.inl ⟨rfl, by omega⟩⟩]
                | rw [if_pos ⟨by omega, Or.inr (by omega)⟩]
                | rw [if_neg (fun q => by omega), if_pos ⟨rfl, by omega⟩]
                | rw [if_neg (fun q => by omega), if_neg (fun q => by omega)])
          · first | rw [zb_0d] at h46 | rw [zn_eq0 (by omega)] at h46 | rw [zi_eq0] at h46
            try (exfalso; omega)
            all_goals (
              refine go_iconst (nI 0) (pc := 49) dX12_faultOf_49 (by decide) ?_
              refine go_goto 59 (pc := 50) dX12_faultOf_50 (by decide) ?_
              refine go_ireturn (pc := 59) dX12_faultOf_59 rfl ?_
              refine ⟨?_, rfl⟩
              unfold faO mF
              first
                | rw [if_pos ⟨by omega, Or.inl ⟨rfl, by omega⟩⟩]
                | rw [if_pos ⟨by omega, Or.inr (by omega)⟩]
                | rw [if_neg (fun q => by omega), if_pos ⟨rfl, by omega⟩]
                | rw [if_neg (fun q => by omega), if_neg (fun q => by omega)])
        · first | rw [nI_leI (by omega) (by omega)] at h24 | rw [zi_leN (by omega)] at h24 | rw [zi_Nle (by omega)] at h24 | rw [zi_le] at h24
          refine go_iload (pc := 27) dX12_faultOf_27 rfl ?_
          refine go_if_ne 40 (pc := 29) dX12_faultOf_29 (by decide) (fun h29 => ?_) (fun h29 => ?_)
          · first | rw [zb_0d] at h29 | rw [zn_eq0 (by omega)] at h29 | rw [zi_eq0] at h29
            try (exfalso; omega)
            all_goals (
              refine go_iconst (-1) (pc := 40) dX12_faultOf_40 (by decide) ?_
              refine go_iload_n (i := 2) (pc := 41) dX12_faultOf_41 rfl rfl ?_
              refine go_isub (pc := 42) dX12_faultOf_42 ?_
              refine go_ireturn (pc := 43) dX12_faultOf_43 rfl ?_
              refine ⟨?_, rfl⟩
              unfold faO mF
              first
                | rw [if_pos ⟨by omega, Or.inl ⟨rfl, by omega⟩⟩]
                | rw [if_pos ⟨by omega, Or.inr (by omega)⟩]
                | rw [if_neg (fun q => by omega), if_pos ⟨rfl, by omega⟩]
                | rw [if_neg (fun q => by omega), if_neg (fun q => by omega)])
          · first | rw [zb_0d] at h29 | rw [zn_eq0 (by omega)] at h29 | rw [zi_eq0] at h29
            try (exfalso; omega)
            all_goals (
              refine go_aload_n (i := 0) (pc := 32) dX12_faultOf_32 rfl rfl ?_
              refine go_geti fl_X12_121 (pc := 33) dX12_faultOf_33 (by rfl) ?_
              rw [k16]
              refine go_iload_n (i := 2) (pc := 36) dX12_faultOf_36 rfl rfl ?_
              refine go_icmp_lt 44 (pc := 37) dX12_faultOf_37 (by decide) (fun h37 => ?_) (fun h37 => ?_)
              · first | rw [nI_ltI (by omega) (by omega)] at h37 | rw [zi_ltN (by omega)] at h37 | rw [zi_Nlt (by omega)] at h37 | rw [zi_lt] at h37
                refine go_iload (pc := 44) dX12_faultOf_44 rfl ?_
                refine go_if_eq 53 (pc := 46) dX12_faultOf_46 (by decide) (fun h46 => ?_) (fun h46 => ?_)
                · first | rw [zb_0d] at h46 | rw [zn_eq0 (by omega)] at h46 | rw [zi_eq0] at h46
                  try (exfalso; omega)
                  all_goals (
                    refine go_iconst (-1) (pc := 53) dX12_faultOf_53 (by decide) ?_
                    refine go_aload_n (i := 0) (pc := 54) dX12_faultOf_54 rfl rfl ?_
                    refine go_geti fl_X12_121 (pc := 55) dX12_faultOf_55 (by rfl) ?_
                    rw [k16]
                    refine go_isub (pc := 58) dX12_faultOf_58 ?_
                    refine go_ireturn (pc := 59) dX12_faultOf_59 rfl ?_
                    refine ⟨?_, rfl⟩
                    unfold faO mF
                    first
                      | rw [if_pos ⟨by omega, Or.inl ⟨rfl, by omega⟩⟩]
                      | rw [if_pos ⟨by omega, Or.inr (by omega)⟩]
                      | rw [if_neg (fun q => by omega), if_pos ⟨rfl, by omega⟩]
                      | rw [if_neg (fun q => by omega), if_neg (fun q => by omega)])
                · first | rw [zb_0d] at h46 | rw [zn_eq0 (by omega)] at h46 | rw [zi_eq0] at h46
                  try (exfalso; omega)
                  all_goals (
                    refine go_iconst (nI 0) (pc := 49) dX12_faultOf_49 (by decide) ?_
                    refine go_goto 59 (pc := 50) dX12_faultOf_50 (by decide) ?_
                    refine go_ireturn (pc := 59) dX12_faultOf_59 rfl ?_
                    refine ⟨?_, rfl⟩
                    unfold faO mF
                    first
                      | rw [if_pos ⟨by omega, Or.inl ⟨rfl, by omega⟩⟩]
                      | rw [if_pos ⟨by omega, Or.inr (by omega)⟩]
                      | rw [if_neg (fun q => by omega), if_pos ⟨rfl, by omega⟩]
                      | rw [if_neg (fun q => by omega), if_neg (fun q => by omega)])
              · first | rw [nI_ltI (by omega) (by omega)] at h37 | rw [zi_ltN (by omega)] at h37 | rw [zi_Nlt (by omega)] at h37 | rw [zi_lt] at h37
                refine go_iconst (-1) (pc := 40) dX12_faultOf_40 (by decide) ?_
                refine go_iload_n (i := 2) (pc := 41) dX12_faultOf_41 rfl rfl ?_
                refine go_isub (pc := 42) dX12_faultOf_42 ?_
                refine go_ireturn (pc := 43) dX12_faultOf_43 rfl ?_
                refine ⟨?_, rfl⟩
                unfold faO mF
                first
                  | rw [if_pos ⟨by omega, Or.inl ⟨rfl, by omega⟩⟩]
                  | rw [if_pos ⟨by omega, Or.inr (by omega)⟩]
                  | rw [if_neg (fun q => by omega), if_pos ⟨rfl, by omega⟩]
                  | rw [if_neg (fun q => by omega), if_neg (fun q => by omega)])
      · first | rw [nI_eq (by omega) (by omega)] at h12 | rw [zi_eqN (by omega)] at h12 | rw [zi_Neq (by omega)] at h12 | rw [zi_eq] at h12
        refine go_iconst (nI 1) (pc := 15) dX12_faultOf_15 (by decide) ?_
        refine go_goto 20 (pc := 16) dX12_faultOf_16 (by decide) ?_
        refine go_istore (pc := 20) dX12_faultOf_20 (by decide) ?_
        refine go_iload_n (i := 1) (pc := 22) dX12_faultOf_22 rfl rfl ?_
        refine go_iload_n (i := 2) (pc := 23) dX12_faultOf_23 rfl rfl ?_
        refine go_icmp_le 44 (pc := 24) dX12_faultOf_24 (by decide) (fun h24 => ?_) (fun h24 => ?_)
        · first | rw [nI_leI (by omega) (by omega)] at h24 | rw [zi_leN (by omega)] at h24 | rw [zi_Nle (by omega)] at h24 | rw [zi_le] at h24
          refine go_iload (pc := 44) dX12_faultOf_44 rfl ?_
          refine go_if_eq 53 (pc := 46) dX12_faultOf_46 (by decide) (fun h46 => ?_) (fun h46 => ?_)
          · first | rw [zb_0d] at h46 | rw [zn_eq0 (by omega)] at h46 | rw [zi_eq0] at h46
            try (exfalso; omega)
            all_goals (
              refine go_iconst (-1) (pc := 53) dX12_faultOf_53 (by decide) ?_
              refine go_aload_n (i := 0) (pc := 54) dX12_faultOf_54 rfl rfl ?_
              refine go_geti fl_X12_121 (pc := 55) dX12_faultOf_55 (by rfl) ?_
              rw [k16]
              refine go_isub (pc := 58) dX12_faultOf_58 ?_
              refine go_ireturn (pc := 59) dX12_faultOf_59 rfl ?_
              refine ⟨?_, rfl⟩
              unfold faO mF
              first
                | rw [if_pos ⟨by omega, Or.inl ⟨rfl, by omega⟩⟩]
                | rw [if_pos ⟨by omega, Or.inr (by omega)⟩]
                | rw [if_neg (fun q => by omega), if_pos ⟨rfl, by omega⟩]
                | rw [if_neg (fun q => by omega), if_neg (fun q => by omega)])
          · first | rw [zb_0d] at h46 | rw [zn_eq0 (by omega)] at h46 | rw [zi_eq0] at h46
            try (exfalso; omega)
            all_goals (
              refine go_iconst (nI 0) (pc := 49) dX12_faultOf_49 (by decide) ?_
              refine go_goto 59 (pc := 50) dX12_faultOf_50 (by decide) ?_
              refine go_ireturn (pc := 59) dX12_faultOf_59 rfl ?_
              refine ⟨?_, rfl⟩
              unfold faO mF
              first
                | rw [if_pos ⟨by omega, Or.inl ⟨rfl, by omega⟩⟩]
                | rw [if_pos ⟨by omega, Or.inr (by omega)⟩]
                | rw [if_neg (fun q => by omega), if_pos ⟨rfl, by omega⟩]
                | rw [if_neg (fun q => by omega), if_neg (fun q => by omega)])
        · first | rw [nI_leI (by omega) (by omega)] at h24 | rw [zi_leN (by omega)] at h24 | rw [zi_Nle (by omega)] at h24 | rw [zi_le] at h24
          refine go_iload (pc := 27) dX12_faultOf_27 rfl ?_
          refine go_if_ne 40 (pc := 29) dX12_faultOf_29 (by decide) (fun h29 => ?_) (fun h29 => ?_)
          · first | rw [zb_0d] at h29 | rw [zn_eq0 (by omega)] at h29 | rw [zi_eq0] at h29
            try (exfalso; omega)
            all_goals (
              refine go_iconst (-1) (pc := 40) dX12_faultOf_40 (by decide) ?_
              refine go_iload_n (i := 2) (pc := 41) dX12_faultOf_41 rfl rfl ?_
              refine go_isub (pc := 42) dX12_faultOf_42 ?_
              refine go_ireturn (pc := 43) dX12_faultOf_43 rfl ?_
              refine ⟨?_, rfl⟩
              unfold faO mF
              first
                | rw [if_pos ⟨by omega, Or.inl ⟨rfl, by omega⟩⟩]
                | rw [if_pos ⟨by omega, Or.inr (by omega)⟩]
                | rw [if_neg (fun q => by omega), if_pos ⟨rfl, by omega⟩]
                | rw [if_neg (fun q => by omega), if_neg (fun q => by omega)])
          · first | rw [zb_0d] at h29 | rw [zn_eq0 (by omega)] at h29 | rw [zi_eq0] at h29
            try (exfalso; omega)
            all_goals (
              refine go_aload_n (i := 0) (pc := 32) dX12_faultOf_32 rfl rfl ?_
              refine go_geti fl_X12_121 (pc := 33) dX12_faultOf_33 (by rfl) ?_
              rw [k16]
              refine go_iload_n (i := 2) (pc := 36) dX12_faultOf_36 rfl rfl ?_
              refine go_icmp_lt 44 (pc := 37) dX12_faultOf_37 (by decide) (fun h37 => ?_) (fun h37 => ?_)
              · first | rw [nI_ltI (by omega) (by omega)] at h37 | rw [zi_ltN (by omega)] at h37 | rw [zi_Nlt (by omega)] at h37 | rw [zi_lt] at h37
                refine go_iload (pc := 44) dX12_faultOf_44 rfl ?_
                refine go_if_eq 53 (pc := 46) dX12_faultOf_46 (by decide) (fun h46 => ?_) (fun h46 => ?_)
                · first | rw [zb_0d] at h46 | rw [zn_eq0 (by omega)] at h46 | rw [zi_eq0] at h46
                  try (exfalso; omega)
                  all_goals (
                    refine go_iconst (-1) (pc := 53) dX12_faultOf_53 (by decide) ?_
                    refine go_aload_n (i := 0) (pc := 54) dX12_faultOf_54 rfl rfl ?_
                    refine go_geti fl_X12_121 (pc := 55) dX12_faultOf_55 (by rfl) ?_
                    rw [k16]
                    refine go_isub (pc := 58) dX12_faultOf_58 ?_
                    refine go_ireturn (pc := 59) dX12_faultOf_59 rfl ?_
                    refine ⟨?_, rfl⟩
                    unfold faO mF
                    first
                      | rw [if_pos ⟨by omega, Or.inl ⟨rfl, by omega⟩⟩]
                      | rw [if_pos ⟨by omega, Or.inr (by omega)⟩]
                      | rw [if_neg (fun q => by omega), if_pos ⟨rfl, by omega⟩]
                      | rw [if_neg (fun q => by omega), if_neg (fun q => by omega)])
                · first | rw [zb_0d] at h46 | rw [zn_eq0 (by omega)] at h46 | rw [zi_eq0] at h46
                  try (exfalso; omega)
                  all_goals (
                    refine go_iconst (nI 0) (pc := 49) dX12_faultOf_49 (by decide) ?_
                    refine go_goto 59 (pc := 50) dX12_faultOf_50 (by decide) ?_
                    refine go_ireturn (pc := 59) dX12_faultOf_59 rfl ?_
                    refine ⟨?_, rfl⟩
                    unfold faO mF
                    first
                      | rw [if_pos ⟨by omega, Or.inl ⟨rfl, by omega⟩⟩]
                      | rw [if_pos ⟨by omega, Or.inr (by omega)⟩]
                      | rw [if_neg (fun q => by omega), if_pos ⟨rfl, by omega⟩]
                      | rw [if_neg (fun q => by omega), if_neg (fun q => by omega)])
              · first | rw [nI_ltI (by omega) (by omega)] at h37 | rw [zi_ltN (by omega)] at h37 | rw [zi_Nlt (by omega)] at h37 | rw [zi_lt] at h37
                refine go_iconst (-1) (pc := 40) dX12_faultOf_40 (by decide) ?_
                refine go_iload_n (i := 2) (pc := 41) dX12_faultOf_41 rfl rfl ?_
                refine go_isub (pc := 42) dX12_faultOf_42 ?_
                refine go_ireturn (pc := 43) dX12_faultOf_43 rfl ?_
                refine ⟨?_, rfl⟩
                unfold faO mF
                first
                  | rw [if_pos ⟨by omega, Or.inl ⟨rfl, by omega⟩⟩]
                  | rw [if_pos ⟨by omega, Or.inr (by omega)⟩]
                  | rw [if_neg (fun q => by omega), if_pos ⟨rfl, by omega⟩]
                  | rw [if_neg (fun q => by omega), if_neg (fun q => by omega)])
  | false =>
    refine go_iload_n (i := 3) (pc := 0) dX12_faultOf_0 rfl rfl ?_
    refine go_if_eq 19 (pc := 1) dX12_faultOf_1 (by decide) (fun h1 => ?_) (fun h1 => ?_)
    · refine go_iconst (nI 0) (pc := 19) dX12_faultOf_19 (by decide) ?_
      refine go_istore (pc := 20) dX12_faultOf_20 (by decide) ?_
      refine go_iload_n (i := 1) (pc := 22) dX12_faultOf_22 rfl rfl ?_
      refine go_iload_n (i := 2) (pc := 23) dX12_faultOf_23 rfl rfl ?_
      refine go_icmp_le 44 (pc := 24) dX12_faultOf_24 (by decide) (fun h24 => ?_) (fun h24 => ?_)
      · first | rw [nI_leI (by omega) (by omega)] at h24 | rw [zi_leN (by omega)] at h24 | rw [zi_Nle (by omega)] at h24 | rw [zi_le] at h24
        refine go_iload (pc := 44) dX12_faultOf_44 rfl ?_
        refine go_if_eq 53 (pc := 46) dX12_faultOf_46 (by decide) (fun h46 => ?_) (fun h46 => ?_)
        · first | rw [zb_0d] at h46 | rw [zn_eq0 (by omega)] at h46 | rw [zi_eq0] at h46
          try (exfalso; omega)
          all_goals (
            refine go_iconst (-1) (pc := 53) dX12_faultOf_53 (by decide) ?_
            refine go_aload_n (i := 0) (pc := 54) dX12_faultOf_54 rfl rfl ?_
            refine go_geti fl_X12_121 (pc := 55) dX12_faultOf_55 (by rfl) ?_
            rw [k16]
            refine go_isub (pc := 58) dX12_faultOf_58 ?_
            refine go_ireturn (pc := 59) dX12_faultOf_59 rfl ?_
            refine ⟨?_, rfl⟩
            unfold faO mF
            first
              | rw [if_pos ⟨by omega, Or.inr (by omega)⟩]
              | rw [if_neg (fun q => by rcases q.2 with q2 | q2; exact absurd q2.1 (by decide); omega), if_neg (fun q => absurd q.1 (by decide))])
        · first | rw [zb_0d] at h46 | rw [zn_eq0 (by omega)] at h46 | rw [zi_eq0] at h46
          try (exfalso; omega)
          all_goals (
            refine go_iconst (nI 0) (pc := 49) dX12_faultOf_49 (by decide) ?_
            refine go_goto 59 (pc := 50) dX12_faultOf_50 (by decide) ?_
            refine go_ireturn (pc := 59) dX12_faultOf_59 rfl ?_
            refine ⟨?_, rfl⟩
            unfold faO mF
            first
              | rw [if_pos ⟨by omega, Or.inr (by omega)⟩]
              | rw [if_neg (fun q => by rcases q.2 with q2 | q2; exact absurd q2.1 (by decide); omega), if_neg (fun q => absurd q.1 (by decide))])
      · first | rw [nI_leI (by omega) (by omega)] at h24 | rw [zi_leN (by omega)] at h24 | rw [zi_Nle (by omega)] at h24 | rw [zi_le] at h24
        refine go_iload (pc := 27) dX12_faultOf_27 rfl ?_
        refine go_if_ne 40 (pc := 29) dX12_faultOf_29 (by decide) (fun h29 => ?_) (fun h29 => ?_)
        · first | rw [zb_0d] at h29 | rw [zn_eq0 (by omega)] at h29 | rw [zi_eq0] at h29
          try (exfalso; omega)
          all_goals (
            refine go_iconst (-1) (pc := 40) dX12_faultOf_40 (by decide) ?_
            refine go_iload_n (i := 2) (pc := 41) dX12_faultOf_41 rfl rfl ?_
            refine go_isub (pc := 42) dX12_faultOf_42 ?_
            refine go_ireturn (pc := 43) dX12_faultOf_43 rfl ?_
            refine ⟨?_, rfl⟩
            unfold faO mF
            first
              | rw [if_pos ⟨by omega, Or.inr (by omega)⟩]
              | rw [if_neg (fun q => by rcases q.2 with q2 | q2; exact absurd q2.1 (by decide); omega), if_neg (fun q => absurd q.1 (by decide))])
        · first | rw [zb_0d] at h29 | rw [zn_eq0 (by omega)] at h29 | rw [zi_eq0] at h29
          try (exfalso; omega)
          all_goals (
            refine go_aload_n (i := 0) (pc := 32) dX12_faultOf_32 rfl rfl ?_
            refine go_geti fl_X12_121 (pc := 33) dX12_faultOf_33 (by rfl) ?_
            rw [k16]
            refine go_iload_n (i := 2) (pc := 36) dX12_faultOf_36 rfl rfl ?_
            refine go_icmp_lt 44 (pc := 37) dX12_faultOf_37 (by decide) (fun h37 => ?_) (fun h37 => ?_)
            · first | rw [nI_ltI (by omega) (by omega)] at h37 | rw [zi_ltN (by omega)] at h37 | rw [zi_Nlt (by omega)] at h37 | rw [zi_lt] at h37
              refine go_iload (pc := 44) dX12_faultOf_44 rfl ?_
              refine go_if_eq 53 (pc := 46) dX12_faultOf_46 (by decide) (fun h46 => ?_) (fun h46 => ?_)
              · first | rw [zb_0d] at h46 | rw [zn_eq0 (by omega)] at h46 | rw [zi_eq0] at h46
                try (exfalso; omega)
                all_goals (
                  refine go_iconst (-1) (pc := 53) dX12_faultOf_53 (by decide) ?_
                  refine go_aload_n (i := 0) (pc := 54) dX12_faultOf_54 rfl rfl ?_
                  refine go_geti fl_X12_121 (pc := 55) dX12_faultOf_55 (by rfl) ?_
                  rw [k16]
                  refine go_isub (pc := 58) dX12_faultOf_58 ?_
                  refine go_ireturn (pc := 59) dX12_faultOf_59 rfl ?_
                  refine ⟨?_, rfl⟩
                  unfold faO mF
                  first
                    | rw [if_pos ⟨by omega, Or.inr (by omega)⟩]
                    | rw [if_neg (fun q => by rcases q.2 with q2 | q2; exact absurd q2.1 (by decide); omega), if_neg (fun q => absurd q.1 (by decide))])
              · first | rw [zb_0d] at h46 | rw [zn_eq0 (by omega)] at h46 | rw [zi_eq0] at h46
                try (exfalso; omega)
                all_goals (
                  refine go_iconst (nI 0) (pc := 49) dX12_faultOf_49 (by decide) ?_
                  refine go_goto 59 (pc := 50) dX12_faultOf_50 (by decide) ?_
                  refine go_ireturn (pc := 59) dX12_faultOf_59 rfl ?_
                  refine ⟨?_, rfl⟩
                  unfold faO mF
                  first
                    | rw [if_pos ⟨by omega, Or.inr (by omega)⟩]
                    | rw [if_neg (fun q => by rcases q.2 with q2 | q2; exact absurd q2.1 (by decide); omega), if_neg (fun q => absurd q.1 (by decide))])
            · first | rw [nI_ltI (by omega) (by omega)] at h37 | rw [zi_ltN (by omega)] at h37 | rw [zi_Nlt (by omega)] at h37 | rw [zi_lt] at h37
              refine go_iconst (-1) (pc := 40) dX12_faultOf_40 (by decide) ?_
              refine go_iload_n (i := 2) (pc := 41) dX12_faultOf_41 rfl rfl ?_
              refine go_isub (pc := 42) dX12_faultOf_42 ?_
              refine go_ireturn (pc := 43) dX12_faultOf_43 rfl ?_
              refine ⟨?_, rfl⟩
              unfold faO mF
              first
                | rw [if_pos ⟨by omega, Or.inr (by omega)⟩]
                | rw [if_neg (fun q => by rcases q.2 with q2 | q2; exact absurd q2.1 (by decide); omega), if_neg (fun q => absurd q.1 (by decide))])
    · exact absurd rfl h1

theorem c_X12_begins {E : zE} {σ : zT} {f : Nat → Nat} {L most : Nat} (hT : TapeIs σ L f) (hm : most ≤ 80) : CalM E 1 yX12_begins cX12_begins 3 (some .int) [.ref (zA E 33 0), .int (nI most)] σ (fun r σ' => r = some (.int (nI L)) ∧ Cur σ' f 0 (min L most) ∧ TapeIs σ' 0 f ∧ σ'.1 33 18 = nI 0 ∧ Fr9 [15, 16, 17, 18] [] σ σ') := by
  refine cal_of_go (own := RX12) rfl (by decide +kernel) (Nat.le_of_ble_eq_true rfl) ?_
  have hL := hT.2.1
  refine go_aload_n (i := 0) (pc := 0) dX12_begins_0 rfl rfl ?_
  refine go_geti fl_X12_118 (pc := 1) dX12_begins_1 (by rfl) ?_
  rw [hT.1]
  refine go_istore_n (i := 2) (pc := 4) dX12_begins_4 rfl (by decide) ?_
  refine go_aload_n (i := 0) (pc := 5) dX12_begins_5 rfl rfl ?_
  refine go_iconst (nI 0) (pc := 6) dX12_begins_6 (by decide) ?_
  refine go_puti fp_X12_118 (pc := 7) dX12_begins_7 (by rfl) rfl rfl ?_
  refine go_aload_n (i := 0) (pc := 10) dX12_begins_10 rfl rfl ?_
  refine go_iconst (nI 0) (pc := 11) dX12_begins_11 (by decide) ?_
  refine go_puti fp_X12_121 (pc := 12) dX12_begins_12 (by rfl) rfl rfl ?_
  refine go_aload_n (i := 0) (pc := 15) dX12_begins_15 rfl rfl ?_
  refine go_iconst (nI 0) (pc := 16) dX12_begins_16 (by decide) ?_
  refine go_puti fp_X12_124 (pc := 17) dX12_begins_17 (by rfl) rfl rfl ?_
  refine go_aload_n (i := 0) (pc := 20) dX12_begins_20 rfl rfl ?_
  refine go_iload_n (i := 2) (pc := 21) dX12_begins_21 rfl rfl ?_
  refine go_iload_n (i := 1) (pc := 22) dX12_begins_22 rfl rfl ?_
  refine go_callS ml_X12_127 mt_J9_min_7cf53 (pc := 23) dX12_begins_23 (c_J9_minN (by omega) (by omega)) (by decide) (by decide) rfl rfl (Nat.le_of_ble_eq_true rfl) (fun r σ' hp => ?_)
  obtain ⟨rfl, hσ⟩ := hp
  rw [hσ]
  clear hσ σ'
  dsimp only [zRet]
  refine go_puti fp_X12_133 (pc := 26) dX12_begins_26 (by rfl) rfl rfl ?_
  refine go_iload_n (i := 2) (pc := 29) dX12_begins_29 rfl rfl ?_
  refine go_ireturn (pc := 30) dX12_begins_30 rfl ?_
  refine ⟨rfl, ⟨?_, uS_s _ _ _ _, Nat.zero_le _, by omega, fun i hi => hT.2.2 i hi⟩, ⟨?_, Nat.zero_le _, fun i hi => hT.2.2 i hi⟩, ?_, (((Fr9.rf.uS (by simp)).uS (by simp)).uS (by simp)).uS (by simp)⟩
  · simp [uS_1]
  · simp [uS_1]
  · simp [uS_1]

