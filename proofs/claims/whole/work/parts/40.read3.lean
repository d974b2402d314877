/-! mouths -/
theorem tDig_in {f : Nat → Nat} {lim : Nat} : ∀ {m a i : Nat}, i < tDig f lim a m → a + i < lim ∧ 48 ≤ f (a + i) ∧ f (a + i) ≤ 57 := by
  intro m
  induction m with
  | zero => intro a i h; exact absurd h (Nat.not_lt_zero _)
  | succ m ih =>
    intro a i h
    unfold tDig at h
    split at h
    · rename_i hc
      cases i with
      | zero => exact hc
      | succ i =>
        have := ih (a := a + 1) (i := i) (by omega)
        rw [show a + (i + 1) = a + 1 + i by omega]
        exact this
    · omega
theorem tNum_2 {f : Nat → Nat} {a d : Nat} (hd : d ≤ 2) (h : ∀ i, i < d → 48 ≤ f (a + i) ∧ f (a + i) ≤ 57) : tNum f a d 0 ≤ 99 := by
  have hd2 : d = 0 ∨ d = 1 ∨ d = 2 := by omega
  rcases hd2 with rfl | rfl | rfl
  · exact Nat.zero_le _
  · have := h 0 (by decide)
    simp only [tNum, Nat.add_zero] at this ⊢
    omega
  · have h1 := h 0 (by decide)
    have h2 := h 1 (by decide)
    simp only [tNum, Nat.add_zero] at h1 h2 ⊢
    omega
/-- a line of mouths: is it one; behind it, or the fault; people, purse -/
def mLn (f : Nat → Nat) (lim p : Nat) : Bool × Nat × Nat × Nat :=
  if tDig f lim p 2 = 0 then (false, p, 0, 0) else if tNum f p (tDig f lim p 2) 0 = 0 then (false, p + tDig f lim p 2 - 1, 0, 0) else if lim ≤ p + tDig f lim p 2 ∨ f (p + tDig f lim p 2) ≠ 44 then (false, p + tDig f lim p 2, 0, 0) else if tDig f lim (p + tDig f lim p 2 + 1) 2 = 0 then (false, p + tDig f lim p 2 + 1, 0, 0) else (true, p + tDig f lim p 2 + 1 + tDig f lim (p + tDig f lim p 2 + 1) 2, tNum f p (tDig f lim p 2) 0, tNum f (p + tDig f lim p 2 + 1) (tDig f lim (p + tDig f lim p 2 + 1) 2) 0)
theorem mLn_b {f : Nat → Nat} {lim p : Nat} (hp : p ≤ lim) : (mLn f lim p).2.1 ≤ lim ∧ ((mLn f lim p).1 = true → p + 3 ≤ (mLn f lim p).2.1 ∧ 1 ≤ (mLn f lim p).2.2.1 ∧ (mLn f lim p).2.2.1 ≤ 99 ∧ (mLn f lim p).2.2.2 ≤ 99) := by
  have d1 := tDig_le f lim p 2
  have d2 := tDig_le f lim (p + tDig f lim p 2 + 1) 2
  have i1 := fun i (h : i < tDig f lim p 2) => tDig_in (f := f) (lim := lim) (m := 2) (a := p) h
  have i2 := fun i (h : i < tDig f lim (p + tDig f lim p 2 + 1) 2) => tDig_in (f := f) (lim := lim) (m := 2) (a := p + tDig f lim p 2 + 1) h
  have n1 := tNum_2 d1 (fun i h => (i1 i h).2)
  have n2 := tNum_2 d2 (fun i h => (i2 i h).2)
  have b1 : p + tDig f lim p 2 ≤ lim := by
    rcases Nat.eq_zero_or_pos (tDig f lim p 2) with e | e
    · omega
    · have := (i1 (tDig f lim p 2 - 1) (by omega)).1; omega
  unfold mLn
  split
  · exact ⟨hp, fun h => by cases h⟩
  · split
    · exact ⟨by dsimp only; omega, fun h => by cases h⟩
    · split
      · exact ⟨b1, fun h => by cases h⟩
      · rename_i hc
        have b3 : p + tDig f lim p 2 + 1 ≤ lim := by omega
        split
        · exact ⟨b3, fun h => by cases h⟩
        · rename_i he
          have b2 := (i2 (tDig f lim (p + tDig f lim p 2 + 1) 2 - 1) (by omega)).1
          exact ⟨by dsimp only; omega, fun _ => ⟨by dsimp only; omega, by dsimp only; omega, n1, n2⟩⟩
def mPos (f : Nat → Nat) (lim : Nat) : Nat → Nat
  | 0 => 0
  | j + 1 => (mLn f lim (mPos f lim j)).2.1 + 1
def mouR (f : Nat → Nat) (lim : Nat) (big : Bool) : Nat → Nat → Nat → Option Nat × Nat
  | 0, i, p => (some p, i)
  | k + 1, i, p => if (mLn f lim p).1 = false then (some (mLn f lim p).2.1, i) else if lim ≤ (mLn f lim p).2.1 ∧ big = false then (none, i + 1) else if lim ≤ (mLn f lim p).2.1 ∨ f (mLn f lim p).2.1 ≠ 59 then (some (mLn f lim p).2.1, i) else mouR f lim big k (i + 1) ((mLn f lim p).2.1 + 1)
def mouF (nt L : Nat) (f : Nat → Nat) : Option Nat × Nat := if L = 0 then (none, 0) else mouR f (min L 47) (decide (47 < L)) (8 - nt) 0 0
def mouP (nt L : Nat) (pe f : Nat → Nat) : Nat → Nat := fun i => if i < nt then pe i else (mLn f (min L 47) (mPos f (min L 47) (i - nt))).2.2.1
def mouQ (nt L : Nat) (pu f : Nat → Nat) : Nat → Nat := fun i => if i < nt then pu i else (mLn f (min L 47) (mPos f (min L 47) (i - nt))).2.2.2

theorem c_X10_readLine {E : zE} {σ : zT} {L p lim s : Nat} {f : Nat → Nat} (hT : TextIs σ L f) (hl : lim ≤ L) (hp0 : p ≤ lim) (hs : s < 8) : CalM E 2 yX10_readLine cX10_readLine 7 (some .int) [.ref (zA E 4 0), .ref (zA E 1 0), .int (nI p), .int (nI lim), .int (nI s)] σ (fun r σ' => r = some (.int (if (mLn f lim p).1 = true then nI (mLn f lim p).2.1 else mF (mLn f lim p).2.1)) ∧ σ'.1 = σ.1 ∧ FrG [4] σ σ' ∧ (∀ i, i ≠ s → σ'.2.1 4 1 i = σ.2.1 4 1 i ∧ σ'.2.1 4 2 i = σ.2.1 4 2 i) ∧ ((mLn f lim p).1 = true → σ'.2.1 4 1 s = nI (mLn f lim p).2.2.1 ∧ σ'.2.1 4 2 s = nI (mLn f lim p).2.2.2)) := by
  refine cal_of_go (own := RX10) rfl (by decide +kernel) (Nat.le_of_ble_eq_true rfl) ?_
  have hL := hT.2.1
  have d1 := tDig_le f lim p 2
  have i1 := fun i (h : i < tDig f lim p 2) => tDig_in (f := f) (lim := lim) (m := 2) (a := p) h
  have n1 := tNum_2 d1 (fun i h => (i1 i h).2)
  have b1 : p + tDig f lim p 2 ≤ lim := by
    rcases Nat.eq_zero_or_pos (tDig f lim p 2) with e | e
    · omega
    · have := (i1 (tDig f lim p 2 - 1) (by omega)).1; omega
  have d2 := tDig_le f lim (p + tDig f lim p 2 + 1) 2
  have i2 := fun i (h : i < tDig f lim (p + tDig f lim p 2 + 1) 2) => tDig_in (f := f) (lim := lim) (m := 2) (a := p + tDig f lim p 2 + 1) h
  have n2 := tNum_2 d2 (fun i h => (i2 i h).2)
  refine go_aload_n (i := 1) (pc := 0) dX10_readLine_0 rfl rfl ?_
  refine go_iload_n (i := 2) (pc := 1) dX10_readLine_1 rfl rfl ?_
  refine go_iconst (nI 2) (pc := 2) dX10_readLine_2 (by decide) ?_
  refine go_iload_n (i := 3) (pc := 3) dX10_readLine_3 rfl rfl ?_
  refine go_callV ml_X10_41 mt_X8_digits (pc := 4) dX10_readLine_4 (c_X8_digits hT (by omega) (by decide) hl) (by first | rfl | (apply zL_cq <;> assumption) | (apply zR_cq <;> assumption)) rfl (by first | rfl | (apply zL_in <;> first | assumption | decide) | (apply zR_in <;> first | assumption | decide)) (by decide) (by decide) rfl rfl (Nat.le_of_ble_eq_true rfl) (fun r σ' hp => ?_)
  obtain ⟨rfl, hσ⟩ := hp
  rw [hσ]
  clear hσ σ'
  dsimp only [zRet]
  refine go_istore (pc := 7) dX10_readLine_7 (by decide) ?_
  refine go_iload (pc := 9) dX10_readLine_9 rfl ?_
  refine go_if_eq 26 (pc := 11) dX10_readLine_11 (by decide) (fun h11 => ?_) (fun h11 => ?_)
  · first | rw [zb_0d] at h11 | rw [zn_eq0 (by omega)] at h11 | rw [zi_eq0] at h11
    refine go_iconst (-1) (pc := 26) dX10_readLine_26 (by decide) ?_
    refine go_iload_n (i := 2) (pc := 27) dX10_readLine_27 rfl rfl ?_
    first | with_reducible refine go_isubN (pc := 28) dX10_readLine_28 (by omega) ?_ | refine go_isub (pc := 28) dX10_readLine_28 ?_
    refine go_ireturn (pc := 29) dX10_readLine_29 rfl ?_
    have em : mLn f lim p = (false, p, 0, 0) := by unfold mLn; rw [if_pos (by omega)]
    rw [em]
    exact ⟨rfl, rfl, FrG.rf, fun i hi => ⟨by first | rfl | rw [uA_s, upd_at, if_neg hi], rfl⟩, fun h => by cases h⟩
  · first | rw [zb_0d] at h11 | rw [zn_eq0 (by omega)] at h11 | rw [zi_eq0] at h11
    refine go_iload (pc := 14) dX10_readLine_14 rfl ?_
    refine go_if_lt 26 (pc := 16) dX10_readLine_16 (by decide) (fun h16 => ?_) (fun h16 => ?_)
    · first | rw [zb_0d] at h16 | rw [zn_lt0 (by omega)] at h16 | rw [zi_lt0] at h16
      exact h16.elim
    · first | rw [zb_0d] at h16 | rw [zn_lt0 (by omega)] at h16 | rw [zi_lt0] at h16
      refine go_iload (pc := 19) dX10_readLine_19 rfl ?_
      refine go_bipush (nI 8) (pc := 21) dX10_readLine_21 (by decide) ?_
      refine go_icmp_lt 30 (pc := 23) dX10_readLine_23 (by decide) (fun h23 => ?_) (fun h23 => ?_)
      · first | rw [nI_ltI (by omega) (by omega)] at h23 | rw [zi_ltN (by omega)] at h23 | rw [zi_Nlt (by omega)] at h23 | rw [zi_lt] at h23
        refine go_iload_n (i := 2) (pc := 30) dX10_readLine_30 rfl rfl ?_
        refine go_iload (pc := 31) dX10_readLine_31 rfl ?_
        first | with_reducible refine go_iaddN (pc := 33) dX10_readLine_33 ?_ | refine go_iadd (pc := 33) dX10_readLine_33 ?_
        refine go_istore (pc := 34) dX10_readLine_34 (by decide) ?_
        refine go_aload_n (i := 0) (pc := 36) dX10_readLine_36 rfl rfl ?_
        refine go_getr2 fl_X10_9 (pc := 37) dX10_readLine_37 (by first | rfl | (apply zL_ci <;> assumption) | (apply zR_ci <;> assumption)) (by first | rfl | (apply zL_in <;> first | assumption | decide) | (apply zR_in <;> first | assumption | decide)) (by first | rfl | (apply zL_fr0 <;> assumption) | (apply zL_fr1 <;> assumption) | (apply zR_fr0 <;> assumption) | (apply zR_fr1 <;> assumption) | (apply zR_fr2 <;> assumption) | (apply zR_fr3 <;> assumption)) ?_
        refine go_iload (pc := 40) dX10_readLine_40 rfl ?_
        refine go_aload_n (i := 1) (pc := 42) dX10_readLine_42 rfl rfl ?_
        refine go_iload_n (i := 2) (pc := 43) dX10_readLine_43 rfl rfl ?_
        refine go_iload (pc := 44) dX10_readLine_44 rfl ?_
        refine go_callV ml_X10_45 mt_X8_number (pc := 46) dX10_readLine_46 (c_X8_number hT (by omega) (by omega) (fun i h => (i1 i h).2)) (by first | rfl | (apply zL_cq <;> assumption) | (apply zR_cq <;> assumption)) rfl (by first | rfl | (apply zL_in <;> first | assumption | decide) | (apply zR_in <;> first | assumption | decide)) (by decide) (by decide) rfl rfl (Nat.le_of_ble_eq_true rfl) (fun r σ' hp => ?_)
        obtain ⟨rfl, hσ⟩ := hp
        rw [hσ]
        clear hσ σ'
        dsimp only [zRet]
        refine go_iastore s (pc := 49) dX10_readLine_49 rfl rfl rfl (by omega) ?_
        have hT2 : TextIs (uA σ 4 1 (upd (σ.2.1 4 1) s (nI (tNum f p (tDig f lim p 2) 0)))) L f := hT.fr (S := [4]) (FrG.rf.uA (by simp)) (by simp)
        have hf1 : FrG [4] σ (uA σ 4 1 (upd (σ.2.1 4 1) s (nI (tNum f p (tDig f lim p 2) 0)))) := FrG.rf.uA (by simp)
        refine go_aload_n (i := 0) (pc := 50) dX10_readLine_50 rfl rfl ?_
        refine go_getr2 fl_X10_9 (pc := 51) dX10_readLine_51 (by first | rfl | (apply zL_ci <;> assumption) | (apply zR_ci <;> assumption)) (by first | rfl | (apply zL_in <;> first | assumption | decide) | (apply zR_in <;> first | assumption | decide)) (by first | rfl | (apply zL_fr0 <;> assumption) | (apply zL_fr1 <;> assumption) | (apply zR_fr0 <;> assumption) | (apply zR_fr1 <;> assumption) | (apply zR_fr2 <;> assumption) | (apply zR_fr3 <;> assumption)) ?_
        refine go_iload (pc := 54) dX10_readLine_54 rfl ?_
        refine go_iaload s (pc := 56) dX10_readLine_56 rfl rfl rfl (by omega) ?_
        rw [uA_s, upd_at, if_pos rfl]
        refine go_if_ne 67 (pc := 57) dX10_readLine_57 (by decide) (fun h57 => ?_) (fun h57 => ?_)
        · first | rw [zb_0d] at h57 | rw [zn_eq0 (by omega)] at h57 | rw [zi_eq0] at h57
          refine go_iload (pc := 67) dX10_readLine_67 rfl ?_
          refine go_iload_n (i := 3) (pc := 69) dX10_readLine_69 rfl rfl ?_
          refine go_icmp_ge 84 (pc := 70) dX10_readLine_70 (by decide) (fun h70 => ?_) (fun h70 => ?_)
          · first | rw [nI_leI (by omega) (by omega)] at h70 | rw [zi_leN (by omega)] at h70 | rw [zi_Nle (by omega)] at h70 | rw [zi_le] at h70
            refine go_iconst (-1) (pc := 84) dX10_readLine_84 (by decide) ?_
            refine go_iload (pc := 85) dX10_readLine_85 rfl ?_
            first | with_reducible refine go_isubN (pc := 87) dX10_readLine_87 (by omega) ?_ | refine go_isub (pc := 87) dX10_readLine_87 ?_
            refine go_ireturn (pc := 88) dX10_readLine_88 rfl ?_
            have em : mLn f lim p = (false, p + tDig f lim p 2, 0, 0) := by unfold mLn; rw [if_neg (by omega), if_neg (by omega), if_pos (by omega)]
            rw [em]
            exact ⟨rfl, rfl, hf1, fun i hi => ⟨by first | rfl | rw [uA_s, upd_at, if_neg hi], rfl⟩, fun h => by cases h⟩
          · first | rw [nI_leI (by omega) (by omega)] at h70 | rw [zi_leN (by omega)] at h70 | rw [zi_Nle (by omega)] at h70 | rw [zi_le] at h70
            refine go_aload_n (i := 1) (pc := 73) dX10_readLine_73 rfl rfl ?_
            refine go_iload (pc := 74) dX10_readLine_74 rfl ?_
            refine go_callV ml_X10_37 mt_X8_at (pc := 76) dX10_readLine_76 (c_X8_at hT2 (by omega)) (by first | rfl | (apply zL_cq <;> assumption) | (apply zR_cq <;> assumption)) rfl (by first | rfl | (apply zL_in <;> first | assumption | decide) | (apply zR_in <;> first | assumption | decide)) (by decide) (by decide) rfl rfl (Nat.le_of_ble_eq_true rfl) (fun r σ' hp => ?_)
            obtain ⟨rfl, hσ⟩ := hp
            rw [hσ]
            clear hσ σ'
            dsimp only [zRet]
            rw [tAt_in (by omega)]
            have hv := (hT.2.2 (p + tDig f lim p 2) (by omega)).2
            refine go_bipush (nI 44) (pc := 79) dX10_readLine_79 (by decide) ?_
            refine go_icmp_eq 89 (pc := 81) dX10_readLine_81 (by decide) (fun h81 => ?_) (fun h81 => ?_)
            · first | rw [nI_eq (by omega) (by omega)] at h81 | rw [zi_eqN (by omega)] at h81 | rw [zi_Neq (by omega)] at h81 | rw [zi_eq] at h81
              refine go_aload_n (i := 1) (pc := 89) dX10_readLine_89 rfl rfl ?_
              refine go_iload (pc := 90) dX10_readLine_90 rfl ?_
              refine go_iconst (nI 1) (pc := 92) dX10_readLine_92 (by decide) ?_
              first | with_reducible refine go_iaddN (pc := 93) dX10_readLine_93 ?_ | refine go_iadd (pc := 93) dX10_readLine_93 ?_
              refine go_iconst (nI 2) (pc := 94) dX10_readLine_94 (by decide) ?_
              refine go_iload_n (i := 3) (pc := 95) dX10_readLine_95 rfl rfl ?_
              refine go_callV ml_X10_41 mt_X8_digits (pc := 96) dX10_readLine_96 (c_X8_digits hT2 (by omega) (by decide) hl) (by first | rfl | (apply zL_cq <;> assumption) | (apply zR_cq <;> assumption)) rfl (by first | rfl | (apply zL_in <;> first | assumption | decide) | (apply zR_in <;> first | assumption | decide)) (by decide) (by decide) rfl rfl (Nat.le_of_ble_eq_true rfl) (fun r σ' hp => ?_)
              obtain ⟨rfl, hσ⟩ := hp
              rw [hσ]
              clear hσ σ'
              dsimp only [zRet]
              refine go_istore (pc := 99) dX10_readLine_99 (by decide) ?_
              refine go_iload (pc := 101) dX10_readLine_101 rfl ?_
              refine go_if_ne 113 (pc := 103) dX10_readLine_103 (by decide) (fun h103 => ?_) (fun h103 => ?_)
              · first | rw [zb_0d] at h103 | rw [zn_eq0 (by omega)] at h103 | rw [zi_eq0] at h103
                refine go_aload_n (i := 0) (pc := 113) dX10_readLine_113 rfl rfl ?_
                refine go_getr2 fl_X10_15 (pc := 114) dX10_readLine_114 (by first | rfl | (apply zL_ci <;> assumption) | (apply zR_ci <;> assumption)) (by first | rfl | (apply zL_in <;> first | assumption | decide) | (apply zR_in <;> first | assumption | decide)) (by first | rfl | (apply zL_fr0 <;> assumption) | (apply zL_fr1 <;> assumption) | (apply zR_fr0 <;> assumption) | (apply zR_fr1 <;> assumption) | (apply zR_fr2 <;> assumption) | (apply zR_fr3 <;> assumption)) ?_
                refine go_iload (pc := 117) dX10_readLine_117 rfl ?_
                refine go_aload_n (i := 1) (pc := 119) dX10_readLine_119 rfl rfl ?_
                refine go_iload (pc := 120) dX10_readLine_120 rfl ?_
                refine go_iconst (nI 1) (pc := 122) dX10_readLine_122 (by decide) ?_
                first | with_reducible refine go_iaddN (pc := 123) dX10_readLine_123 ?_ | refine go_iadd (pc := 123) dX10_readLine_123 ?_
                refine go_iload (pc := 124) dX10_readLine_124 rfl ?_
                refine go_callV ml_X10_45 mt_X8_number (pc := 126) dX10_readLine_126 (c_X8_number hT2 (by omega) (by have := (i2 (tDig f lim (p + tDig f lim p 2 + 1) 2 - 1) (by omega)).1; omega) (fun i h => (i2 i h).2)) (by first | rfl | (apply zL_cq <;> assumption) | (apply zR_cq <;> assumption)) rfl (by first | rfl | (apply zL_in <;> first | assumption | decide) | (apply zR_in <;> first | assumption | decide)) (by decide) (by decide) rfl rfl (Nat.le_of_ble_eq_true rfl) (fun r σ' hp => ?_)
                obtain ⟨rfl, hσ⟩ := hp
                rw [hσ]
                clear hσ σ'
                dsimp only [zRet]
                refine go_iastore s (pc := 129) dX10_readLine_129 rfl rfl rfl (by omega) ?_
                refine go_iload (pc := 130) dX10_readLine_130 rfl ?_
                refine go_iconst (nI 1) (pc := 132) dX10_readLine_132 (by decide) ?_
                first | with_reducible refine go_iaddN (pc := 133) dX10_readLine_133 ?_ | refine go_iadd (pc := 133) dX10_readLine_133 ?_
                refine go_iload (pc := 134) dX10_readLine_134 rfl ?_
                first | with_reducible refine go_iaddN (pc := 136) dX10_readLine_136 ?_ | refine go_iadd (pc := 136) dX10_readLine_136 ?_
                refine go_ireturn (pc := 137) dX10_readLine_137 rfl ?_
                have em : mLn f lim p = (true, p + tDig f lim p 2 + 1 + tDig f lim (p + tDig f lim p 2 + 1) 2, tNum f p (tDig f lim p 2) 0, tNum f (p + tDig f lim p 2 + 1) (tDig f lim (p + tDig f lim p 2 + 1) 2) 0) := by unfold mLn; rw [if_neg (by omega), if_neg (by omega), if_neg (by omega), if_neg (by omega)]
                rw [em]
                exact ⟨rfl, rfl, hf1.uA (by simp), fun i hi => ⟨by show upd (σ.2.1 4 1) s _ i = _; rw [upd_at, if_neg hi], by rw [uA_s, upd_at, if_neg hi]; rfl⟩, fun _ => ⟨by show upd (σ.2.1 4 1) s _ s = _; rw [upd_at, if_pos rfl], by rw [uA_s, upd_at, if_pos rfl]⟩⟩
              · first | rw [zb_0d] at h103 | rw [zn_eq0 (by omega)] at h103 | rw [zi_eq0] at h103
                refine go_iconst (-1) (pc := 106) dX10_readLine_106 (by decide) ?_
                refine go_iload (pc := 107) dX10_readLine_107 rfl ?_
                refine go_iconst (nI 1) (pc := 109) dX10_readLine_109 (by decide) ?_
                first | with_reducible refine go_iaddN (pc := 110) dX10_readLine_110 ?_ | refine go_iadd (pc := 110) dX10_readLine_110 ?_
                first | with_reducible refine go_isubN (pc := 111) dX10_readLine_111 (by omega) ?_ | refine go_isub (pc := 111) dX10_readLine_111 ?_
                refine go_ireturn (pc := 112) dX10_readLine_112 rfl ?_
                have em : mLn f lim p = (false, p + tDig f lim p 2 + 1, 0, 0) := by unfold mLn; rw [if_neg (by omega), if_neg (by omega), if_neg (by omega), if_pos (by omega)]
                rw [em]
                exact ⟨rfl, rfl, hf1, fun i hi => ⟨by first | rfl | rw [uA_s, upd_at, if_neg hi], rfl⟩, fun h => by cases h⟩
            · first | rw [nI_eq (by omega) (by omega)] at h81 | rw [zi_eqN (by omega)] at h81 | rw [zi_Neq (by omega)] at h81 | rw [zi_eq] at h81
              refine go_iconst (-1) (pc := 84) dX10_readLine_84 (by decide) ?_
              refine go_iload (pc := 85) dX10_readLine_85 rfl ?_
              first | with_reducible refine go_isubN (pc := 87) dX10_readLine_87 (by omega) ?_ | refine go_isub (pc := 87) dX10_readLine_87 ?_
              refine go_ireturn (pc := 88) dX10_readLine_88 rfl ?_
              have em : mLn f lim p = (false, p + tDig f lim p 2, 0, 0) := by unfold mLn; rw [if_neg (by omega), if_neg (by omega), if_pos (by omega)]
              rw [em]
              exact ⟨rfl, rfl, hf1, fun i hi => ⟨by first | rfl | rw [uA_s, upd_at, if_neg hi], rfl⟩, fun h => by cases h⟩
        · first | rw [zb_0d] at h57 | rw [zn_eq0 (by omega)] at h57 | rw [zi_eq0] at h57
          refine go_iconst (-1) (pc := 60) dX10_readLine_60 (by decide) ?_
          refine go_iload (pc := 61) dX10_readLine_61 rfl ?_
          refine go_iconst (nI 1) (pc := 63) dX10_readLine_63 (by decide) ?_
          first | with_reducible refine go_isubN (pc := 64) dX10_readLine_64 (by omega) ?_ | refine go_isub (pc := 64) dX10_readLine_64 ?_
          first | with_reducible refine go_isubN (pc := 65) dX10_readLine_65 (by omega) ?_ | refine go_isub (pc := 65) dX10_readLine_65 ?_
          refine go_ireturn (pc := 66) dX10_readLine_66 rfl ?_
          have em : mLn f lim p = (false, p + tDig f lim p 2 - 1, 0, 0) := by unfold mLn; rw [if_neg (by omega), if_pos (by omega)]
          rw [em]
          exact ⟨rfl, rfl, hf1, fun i hi => ⟨by first | rfl | rw [uA_s, upd_at, if_neg hi], rfl⟩, fun h => by cases h⟩
      · first | rw [nI_ltI (by omega) (by omega)] at h23 | rw [zi_ltN (by omega)] at h23 | rw [zi_Nlt (by omega)] at h23 | rw [zi_lt] at h23
        exfalso
        omega

set_option maxRecDepth 4000 in
theorem c_X10_read {E : zE} {σ : zT} {L nt : Nat} {f pe pu : Nat → Nat} (hT : TextIs σ L f) (hW : TownIs σ nt pe pu) : CalM E 3 yX10_read cX10_read 6 (some .int) [.ref (zA E 4 0), .ref (zA E 1 0)] σ (fun r σ' => r = some (.int (match (mouF nt L f).1 with | none => nI (mouF nt L f).2 | some q => mF q)) ∧ (match (mouF nt L f).1 with | none => TownIs σ' (nt + (mouF nt L f).2) (mouP nt L pe f) (mouQ nt L pu f) | some _ => TownIs σ' nt pe pu) ∧ FrG [4] σ σ') := by
  refine cal_of_go (own := RX10) rfl (by decide +kernel) (Nat.le_of_ble_eq_true rfl) ?_
  have hL := hT.2.1
  have hnt := hW.1
  have loop : ∀ (i : Nat) (τ : zT), i ≤ (8 - nt) → (0 < L) → (TownIs τ nt pe pu) → (mPos f (min L 47) i ≤ (min L 47)) → (mouF nt L f = mouR f (min L 47) (decide (47 < L)) (8 - nt - i) i (mPos f (min L 47) i)) → (∀ j, j < i → τ.2.1 4 1 (nt + j) = nI (mLn f (min L 47) (mPos f (min L 47) j)).2.2.1 ∧ τ.2.1 4 2 (nt + j) = nI (mLn f (min L 47) (mPos f (min L 47) j)).2.2.2 ∧ 1 ≤ (mLn f (min L 47) (mPos f (min L 47) j)).2.2.1 ∧ (mLn f (min L 47) (mPos f (min L 47) j)).2.2.1 ≤ 99 ∧ (mLn f (min L 47) (mPos f (min L 47) j)).2.2.2 ≤ 99) → (FrG [4] σ τ) → GoM E 3 RX10 cX10_read 6 (some .int) (fun r σ' => r = some (.int (match (mouF nt L f).1 with | none => nI (mouF nt L f).2 | some q => mF q)) ∧ (match (mouF nt L f).1 with | none => TownIs σ' (nt + (mouF nt L f).2) (mouP nt L pe f) (mouQ nt L pu f) | some _ => TownIs σ' nt pe pu) ∧ FrG [4] σ σ') τ 24 [(0, .ref (zA E 4 0)), (1, .ref (zA E 1 0)), (2, .int (nI (min L 47))), (3, .int (nI (mPos f (min L 47) i))), (4, .int (nI i))] [] := by
    intro i
    induction hj : (8 - nt) - i using Nat.strongRecOn generalizing i with
    | ind z ih =>
      intro τ hi h0 hWt hpl hm hrow hf
      have hTt := hT.fr hf (by simp)
      refine go_iload (pc := 24) dX10_read_24 rfl ?_
      refine go_bipush (nI 8) (pc := 26) dX10_read_26 (by decide) ?_
      refine go_icmp_ge 133 (pc := 28) dX10_read_28 (by decide) (fun h28 => ?_) (fun h28 => ?_)
      · first | rw [nI_leI (by omega) (by omega)] at h28 | rw [zi_leN (by omega)] at h28 | rw [zi_Nle (by omega)] at h28 | rw [zi_le] at h28
        have ei : i = 8 - nt := by omega
        have em : mouF nt L f = (some (mPos f (min L 47) i), i) := by rw [hm, show z = 0 by omega, mouR]
        refine go_iconst (-1) (pc := 133) dX10_read_133 (by decide) ?_
        refine go_iload_n (i := 3) (pc := 134) dX10_read_134 rfl rfl ?_
        first | with_reducible refine go_isubN (pc := 135) dX10_read_135 (by omega) ?_ | refine go_isub (pc := 135) dX10_read_135 ?_
        refine go_ireturn (pc := 136) dX10_read_136 rfl ?_
        rw [em]
        exact ⟨rfl, hWt, hf⟩
      · first | rw [nI_leI (by omega) (by omega)] at h28 | rw [zi_leN (by omega)] at h28 | rw [zi_Nle (by omega)] at h28 | rw [zi_le] at h28
        refine go_aload_n (i := 0) (pc := 31) dX10_read_31 rfl rfl ?_
        refine go_geti fl_X10_30 (pc := 32) dX10_read_32 (by first | rfl | (apply zL_fi <;> first | assumption | decide) | (apply zR_fi <;> first | assumption | decide)) ?_
        rw [hWt.2.1]
        refine go_iload (pc := 35) dX10_read_35 rfl ?_
        first | with_reducible refine go_iaddN (pc := 37) dX10_read_37 ?_ | refine go_iadd (pc := 37) dX10_read_37 ?_
        refine go_bipush (nI 8) (pc := 38) dX10_read_38 (by decide) ?_
        refine go_icmp_ge 133 (pc := 40) dX10_read_40 (by decide) (fun h40 => ?_) (fun h40 => ?_)
        · first | rw [nI_leI (by omega) (by omega)] at h40 | rw [zi_leN (by omega)] at h40 | rw [zi_Nle (by omega)] at h40 | rw [zi_le] at h40
          have ei : i = 8 - nt := by omega
          have em : mouF nt L f = (some (mPos f (min L 47) i), i) := by rw [hm, show z = 0 by omega, mouR]
          refine go_iconst (-1) (pc := 133) dX10_read_133 (by decide) ?_
          refine go_iload_n (i := 3) (pc := 134) dX10_read_134 rfl rfl ?_
          first | with_reducible refine go_isubN (pc := 135) dX10_read_135 (by omega) ?_ | refine go_isub (pc := 135) dX10_read_135 ?_
          refine go_ireturn (pc := 136) dX10_read_136 rfl ?_
          rw [em]
          exact ⟨rfl, hWt, hf⟩
        · first | rw [nI_leI (by omega) (by omega)] at h40 | rw [zi_leN (by omega)] at h40 | rw [zi_Nle (by omega)] at h40 | rw [zi_le] at h40
          refine go_aload_n (i := 0) (pc := 43) dX10_read_43 rfl rfl ?_
          refine go_aload_n (i := 1) (pc := 44) dX10_read_44 rfl rfl ?_
          refine go_iload_n (i := 3) (pc := 45) dX10_read_45 rfl rfl ?_
          refine go_iload_n (i := 2) (pc := 46) dX10_read_46 rfl rfl ?_
          refine go_aload_n (i := 0) (pc := 47) dX10_read_47 rfl rfl ?_
          refine go_geti fl_X10_30 (pc := 48) dX10_read_48 (by first | rfl | (apply zL_fi <;> first | assumption | decide) | (apply zR_fi <;> first | assumption | decide)) ?_
          rw [hWt.2.1]
          refine go_iload (pc := 51) dX10_read_51 rfl ?_
          first | with_reducible refine go_iaddN (pc := 53) dX10_read_53 ?_ | refine go_iadd (pc := 53) dX10_read_53 ?_
          refine go_callV ml_X10_33 mt_X10_readLine (pc := 54) dX10_read_54 (c_X10_readLine hTt (by omega) hpl (by omega)) (by first | rfl | (apply zL_cq <;> assumption) | (apply zR_cq <;> assumption)) rfl (by first | rfl | (apply zL_in <;> first | assumption | decide) | (apply zR_in <;> first | assumption | decide)) (by decide) (by decide) rfl rfl (Nat.le_of_ble_eq_true rfl) (fun r σ' hp => ?_)
          obtain ⟨rfl, hs2, hf2, hr2, hw2⟩ := hp
          dsimp only [zRet]
          have hW2 : TownIs σ' nt pe pu := ⟨hWt.1, by rw [hs2]; exact hWt.2.1, fun j hj => by rw [(hr2 j (by omega)).1, (hr2 j (by omega)).2]; exact hWt.2.2 j hj⟩
          have hf3 := hf.tr hf2
          have hT3 := hT.fr hf3 (by simp)
          have hmb := mLn_b (f := f) (lim := (min L 47)) (p := mPos f (min L 47) i) hpl
          skip -- generalize hw : mLn f (min L 47) (mPos f (min L 47) i) = w at *
          refine go_istore (pc := 57) dX10_read_57 (by decide) ?_
          refine go_iload (pc := 59) dX10_read_59 rfl ?_
          refine go_if_ge 67 (pc := 61) dX10_read_61 (by decide) (fun h61 => ?_) (fun h61 => ?_)
          · have hwt : (mLn f (min L 47) (mPos f (min L 47) i)).1 = true := by
              rcases Bool.eq_false_or_eq_true (mLn f (min L 47) (mPos f (min L 47) i)).1 with e | e
              · exact e
              · rw [if_neg (by rw [e]; decide)] at h61
                rw [zi_ge0] at h61
                have := mF_nn (q := (mLn f (min L 47) (mPos f (min L 47) i)).2.1) (by omega)
                omega
            rw [if_pos hwt]
            have hmb2 := hmb.2 hwt
            have hm2 := hm
            rw [show z = z - 1 + 1 by omega, mouR, if_neg (by rw [hwt]; decide)] at hm2
            refine go_iload (pc := 67) dX10_read_67 rfl ?_
            refine go_iload_n (i := 2) (pc := 69) dX10_read_69 rfl rfl ?_
            refine go_icmp_lt 100 (pc := 70) dX10_read_70 (by decide) (fun h70 => ?_) (fun h70 => ?_)
            · first | rw [nI_ltI (by omega) (by omega)] at h70 | rw [zi_ltN (by omega)] at h70 | rw [zi_Nlt (by omega)] at h70 | rw [zi_lt] at h70
              rw [if_neg (by omega)] at hm2
              refine go_iload (pc := 100) dX10_read_100 rfl ?_
              refine go_iload_n (i := 2) (pc := 102) dX10_read_102 rfl rfl ?_
              refine go_icmp_ge 117 (pc := 103) dX10_read_103 (by decide) (fun h103 => ?_) (fun h103 => ?_)
              · first | rw [nI_leI (by omega) (by omega)] at h103 | rw [zi_leN (by omega)] at h103 | rw [zi_Nle (by omega)] at h103 | rw [zi_le] at h103
                have hm3 : mouF nt L f = (some (mLn f (min L 47) (mPos f (min L 47) i)).2.1, i) := by rw [hm2, if_pos (by omega)]
                refine go_iconst (-1) (pc := 117) dX10_read_117 (by decide) ?_
                refine go_iload (pc := 118) dX10_read_118 rfl ?_
                first | with_reducible refine go_isubN (pc := 120) dX10_read_120 (by omega) ?_ | refine go_isub (pc := 120) dX10_read_120 ?_
                refine go_ireturn (pc := 121) dX10_read_121 rfl ?_
                rw [hm3]
                exact ⟨rfl, hW2, hf3⟩
              · first | rw [nI_leI (by omega) (by omega)] at h103 | rw [zi_leN (by omega)] at h103 | rw [zi_Nle (by omega)] at h103 | rw [zi_le] at h103
                refine go_aload_n (i := 1) (pc := 106) dX10_read_106 rfl rfl ?_
                refine go_iload (pc := 107) dX10_read_107 rfl ?_
                refine go_callV ml_X10_37 mt_X8_at (pc := 109) dX10_read_109 (c_X8_at hT3 (by omega)) (by first | rfl | (apply zL_cq <;> assumption) | (apply zR_cq <;> assumption)) rfl (by first | rfl | (apply zL_in <;> first | assumption | decide) | (apply zR_in <;> first | assumption | decide)) (by decide) (by decide) rfl rfl (Nat.le_of_ble_eq_true rfl) (fun r σ' hp => ?_)
                obtain ⟨rfl, hσ⟩ := hp
                rw [hσ]
                clear hσ σ'
                dsimp only [zRet]
                rw [tAt_in (by omega)]
                have hv := (hT.2.2 (mLn f (min L 47) (mPos f (min L 47) i)).2.1 (by omega)).2
                refine go_bipush (nI 59) (pc := 112) dX10_read_112 (by decide) ?_
                refine go_icmp_eq 122 (pc := 114) dX10_read_114 (by decide) (fun h114 => ?_) (fun h114 => ?_)
                · first | rw [nI_eq (by omega) (by omega)] at h114 | rw [zi_eqN (by omega)] at h114 | rw [zi_Neq (by omega)] at h114 | rw [zi_eq] at h114
                  rw [if_neg (by omega)] at hm2
                  refine go_iload (pc := 122) dX10_read_122 rfl ?_
                  refine go_iconst (nI 1) (pc := 124) dX10_read_124 (by decide) ?_
                  first | with_reducible refine go_iaddN (pc := 125) dX10_read_125 ?_ | refine go_iadd (pc := 125) dX10_read_125 ?_
                  refine go_istore_n (i := 3) (pc := 126) dX10_read_126 rfl (by decide) ?_
                  refine go_iincN (pc := 127) dX10_read_127 rfl (by decide) ?_
                  refine go_goto 24 (pc := 130) dX10_read_130 (by decide) ?_
                  refine go_drop [0, 1, 2, 3, 4] rfl ?_
                  refine ih (z - 1) (by omega) (i + 1) (by omega) _ (by omega) h0 hW2 (by show (mLn f (min L 47) (mPos f (min L 47) i)).2.1 + 1 ≤ _; omega) hm2 (fun j hj => ?_) hf3
                  by_cases hji : j = i
                  · subst hji
                    exact ⟨(hw2 hwt).1, (hw2 hwt).2, hmb2.2.1, hmb2.2.2.1, hmb2.2.2.2⟩
                  · rw [(hr2 _ (by omega)).1, (hr2 _ (by omega)).2]
                    exact hrow j (by omega)
                · first | rw [nI_eq (by omega) (by omega)] at h114 | rw [zi_eqN (by omega)] at h114 | rw [zi_Neq (by omega)] at h114 | rw [zi_eq] at h114
                  have hm3 : mouF nt L f = (some (mLn f (min L 47) (mPos f (min L 47) i)).2.1, i) := by rw [hm2, if_pos (by omega)]
                  refine go_iconst (-1) (pc := 117) dX10_read_117 (by decide) ?_
                  refine go_iload (pc := 118) dX10_read_118 rfl ?_
                  first | with_reducible refine go_isubN (pc := 120) dX10_read_120 (by omega) ?_ | refine go_isub (pc := 120) dX10_read_120 ?_
                  refine go_ireturn (pc := 121) dX10_read_121 rfl ?_
                  rw [hm3]
                  exact ⟨rfl, hW2, hf3⟩
            · first | rw [nI_ltI (by omega) (by omega)] at h70 | rw [zi_ltN (by omega)] at h70 | rw [zi_Nlt (by omega)] at h70 | rw [zi_lt] at h70
              refine go_aload_n (i := 1) (pc := 73) dX10_read_73 rfl rfl ?_
              refine go_callV ml_X10_18 mt_X8_size (pc := 74) dX10_read_74 (c_X8_size hT3) (by first | rfl | (apply zL_cq <;> assumption) | (apply zR_cq <;> assumption)) rfl (by first | rfl | (apply zL_in <;> first | assumption | decide) | (apply zR_in <;> first | assumption | decide)) (by decide) (by decide) rfl rfl (Nat.le_of_ble_eq_true rfl) (fun r σ' hp => ?_)
              obtain ⟨rfl, hσ⟩ := hp
              rw [hσ]
              clear hσ σ'
              dsimp only [zRet]
              refine go_bipush (nI 47) (pc := 77) dX10_read_77 (by decide) ?_
              refine go_icmp_gt 100 (pc := 79) dX10_read_79 (by decide) (fun h79 => ?_) (fun h79 => ?_)
              · first | rw [nI_ltI (by omega) (by omega)] at h79 | rw [zi_ltN (by omega)] at h79 | rw [zi_Nlt (by omega)] at h79 | rw [zi_lt] at h79
                rw [if_neg (by simp; omega)] at hm2
                refine go_iload (pc := 100) dX10_read_100 rfl ?_
                refine go_iload_n (i := 2) (pc := 102) dX10_read_102 rfl rfl ?_
                refine go_icmp_ge 117 (pc := 103) dX10_read_103 (by decide) (fun h103 => ?_) (fun h103 => ?_)
                · first | rw [nI_leI (by omega) (by omega)] at h103 | rw [zi_leN (by omega)] at h103 | rw [zi_Nle (by omega)] at h103 | rw [zi_le] at h103
                  have hm3 : mouF nt L f = (some (mLn f (min L 47) (mPos f (min L 47) i)).2.1, i) := by rw [hm2, if_pos (by omega)]
                  refine go_iconst (-1) (pc := 117) dX10_read_117 (by decide) ?_
                  refine go_iload (pc := 118) dX10_read_118 rfl ?_
                  first | with_reducible refine go_isubN (pc := 120) dX10_read_120 (by omega) ?_ | refine go_isub (pc := 120) dX10_read_120 ?_
                  refine go_ireturn (pc := 121) dX10_read_121 rfl ?_
                  rw [hm3]
                  exact ⟨rfl, hW2, hf3⟩
                · first | rw [nI_leI (by omega) (by omega)] at h103 | rw [zi_leN (by omega)] at h103 | rw [zi_Nle (by omega)] at h103 | rw [zi_le] at h103
                  refine go_aload_n (i := 1) (pc := 106) dX10_read_106 rfl rfl ?_
                  refine go_iload (pc := 107) dX10_read_107 rfl ?_
                  refine go_callV ml_X10_37 mt_X8_at (pc := 109) dX10_read_109 (c_X8_at hT3 (by omega)) (by first | rfl | (apply zL_cq <;> assumption) | (apply zR_cq <;> assumption)) rfl (by first | rfl | (apply zL_in <;> first | assumption | decide) | (apply zR_in <;> first | assumption | decide)) (by decide) (by decide) rfl rfl (Nat.le_of_ble_eq_true rfl) (fun r σ' hp => ?_)
                  obtain ⟨rfl, hσ⟩ := hp
                  rw [hσ]
                  clear hσ σ'
                  dsimp only [zRet]
                  rw [tAt_in (by omega)]
                  have hv := (hT.2.2 (mLn f (min L 47) (mPos f (min L 47) i)).2.1 (by omega)).2
                  refine go_bipush (nI 59) (pc := 112) dX10_read_112 (by decide) ?_
                  refine go_icmp_eq 122 (pc := 114) dX10_read_114 (by decide) (fun h114 => ?_) (fun h114 => ?_)
                  · first | rw [nI_eq (by omega) (by omega)] at h114 | rw [zi_eqN (by omega)] at h114 | rw [zi_Neq (by omega)] at h114 | rw [zi_eq] at h114
                    rw [if_neg (by omega)] at hm2
                    refine go_iload (pc := 122) dX10_read_122 rfl ?_
                    refine go_iconst (nI 1) (pc := 124) dX10_read_124 (by decide) ?_
                    first | with_reducible refine go_iaddN (pc := 125) dX10_read_125 ?_ | refine go_iadd (pc := 125) dX10_read_125 ?_
                    refine go_istore_n (i := 3) (pc := 126) dX10_read_126 rfl (by decide) ?_
                    refine go_iincN (pc := 127) dX10_read_127 rfl (by decide) ?_
                    refine go_goto 24 (pc := 130) dX10_read_130 (by decide) ?_
                    refine go_drop [0, 1, 2, 3, 4] rfl ?_
                    refine ih (z - 1) (by omega) (i + 1) (by omega) _ (by omega) h0 hW2 (by show (mLn f (min L 47) (mPos f (min L 47) i)).2.1 + 1 ≤ _; omega) hm2 (fun j hj => ?_) hf3
                    by_cases hji : j = i
                    · subst hji
                      exact ⟨(hw2 hwt).1, (hw2 hwt).2, hmb2.2.1, hmb2.2.2.1, hmb2.2.2.2⟩
                    · rw [(hr2 _ (by omega)).1, (hr2 _ (by omega)).2]
                      exact hrow j (by omega)
                  · first | rw [nI_eq (by omega) (by omega)] at h114 | rw [zi_eqN (by omega)] at h114 | rw [zi_Neq (by omega)] at h114 | rw [zi_eq] at h114
                    have hm3 : mouF nt L f = (some (mLn f (min L 47) (mPos f (min L 47) i)).2.1, i) := by rw [hm2, if_pos (by omega)]
                    refine go_iconst (-1) (pc := 117) dX10_read_117 (by decide) ?_
                    refine go_iload (pc := 118) dX10_read_118 rfl ?_
                    first | with_reducible refine go_isubN (pc := 120) dX10_read_120 (by omega) ?_ | refine go_isub (pc := 120) dX10_read_120 ?_
                    refine go_ireturn (pc := 121) dX10_read_121 rfl ?_
                    rw [hm3]
                    exact ⟨rfl, hW2, hf3⟩
              · first | rw [nI_ltI (by omega) (by omega)] at h79 | rw [zi_ltN (by omega)] at h79 | rw [zi_Nlt (by omega)] at h79 | rw [zi_lt] at h79
                have hm3 : mouF nt L f = (none, i + 1) := by rw [hm2, if_pos ⟨by omega, decide_eq_false (by omega)⟩]
                refine go_aload_n (i := 0) (pc := 82) dX10_read_82 rfl rfl ?_
                refine go_dup (pc := 83) dX10_read_83 rfl ?_
                refine go_geti fl_X10_30 (pc := 84) dX10_read_84 (by first | rfl | (apply zL_fi <;> first | assumption | decide) | (apply zR_fi <;> first | assumption | decide)) ?_
                rw [hW2.2.1]
                refine go_iload (pc := 87) dX10_read_87 rfl ?_
                refine go_iconst (nI 1) (pc := 89) dX10_read_89 (by decide) ?_
                first | with_reducible refine go_iaddN (pc := 90) dX10_read_90 ?_ | refine go_iadd (pc := 90) dX10_read_90 ?_
                first | with_reducible refine go_iaddN (pc := 91) dX10_read_91 ?_ | refine go_iadd (pc := 91) dX10_read_91 ?_
                refine go_puti fp_X10_30 (pc := 92) dX10_read_92 (by first | rfl | (apply zL_fi <;> first | assumption | decide) | (apply zR_fi <;> first | assumption | decide)) rfl rfl ?_
                refine go_iload (pc := 95) dX10_read_95 rfl ?_
                refine go_iconst (nI 1) (pc := 97) dX10_read_97 (by decide) ?_
                first | with_reducible refine go_iaddN (pc := 98) dX10_read_98 ?_ | refine go_iadd (pc := 98) dX10_read_98 ?_
                refine go_ireturn (pc := 99) dX10_read_99 rfl ?_
                rw [hm3]
                refine ⟨rfl, ⟨by omega, uS_s _ _ _ _, fun j hj => ?_⟩, hf3.uS (by simp)⟩
                rw [uS_2]
                unfold mouP mouQ
                by_cases hjn : j < nt
                · rw [if_pos hjn, if_pos hjn]
                  exact hW2.2.2 j hjn
                · rw [if_neg hjn, if_neg hjn]
                  by_cases hji : j - nt = i
                  · have e : j = nt + i := by omega
                    subst e
                    rw [hji]
                    exact ⟨(hw2 hwt).1, (hw2 hwt).2, hmb2.2.1, hmb2.2.2.1, hmb2.2.2.2⟩
                  · have hq := hrow (j - nt) (by omega)
                    rw [show nt + (j - nt) = j by omega] at hq
                    rw [(hr2 j (by omega)).1, (hr2 j (by omega)).2]
                    exact hq
          · have hwf : (mLn f (min L 47) (mPos f (min L 47) i)).1 = false := by
              rcases Bool.eq_false_or_eq_true (mLn f (min L 47) (mPos f (min L 47) i)).1 with e | e
              · rw [if_pos e, zn_ge0 (by omega)] at h61
                exact absurd trivial h61
              · exact e
            rw [if_neg (by rw [hwf]; decide)]
            have hm2 : mouF nt L f = (some (mLn f (min L 47) (mPos f (min L 47) i)).2.1, i) := by rw [hm, show z = z - 1 + 1 by omega, mouR, if_pos hwf]
            refine go_iload (pc := 64) dX10_read_64 rfl ?_
            refine go_ireturn (pc := 66) dX10_read_66 rfl ?_
            rw [hm2]
            exact ⟨rfl, hW2, hf3⟩
  refine go_aload_n (i := 1) (pc := 0) dX10_read_0 rfl rfl ?_
  refine go_callV ml_X10_18 mt_X8_size (pc := 1) dX10_read_1 (c_X8_size hT) (by first | rfl | (apply zL_cq <;> assumption) | (apply zR_cq <;> assumption)) rfl (by first | rfl | (apply zL_in <;> first | assumption | decide) | (apply zR_in <;> first | assumption | decide)) (by decide) (by decide) rfl rfl (Nat.le_of_ble_eq_true rfl) (fun r σ' hp => ?_)
  obtain ⟨rfl, hσ⟩ := hp
  rw [hσ]
  clear hσ σ'
  dsimp only [zRet]
  refine go_if_ne 9 (pc := 4) dX10_read_4 (by decide) (fun h4 => ?_) (fun h4 => ?_)
  · first | rw [zb_0d] at h4 | rw [zn_eq0 (by omega)] at h4 | rw [zi_eq0] at h4
    refine go_aload_n (i := 1) (pc := 9) dX10_read_9 rfl rfl ?_
    refine go_callV ml_X10_18 mt_X8_size (pc := 10) dX10_read_10 (c_X8_size hT) (by first | rfl | (apply zL_cq <;> assumption) | (apply zR_cq <;> assumption)) rfl (by first | rfl | (apply zL_in <;> first | assumption | decide) | (apply zR_in <;> first | assumption | decide)) (by decide) (by decide) rfl rfl (Nat.le_of_ble_eq_true rfl) (fun r σ' hp => ?_)
    obtain ⟨rfl, hσ⟩ := hp
    rw [hσ]
    clear hσ σ'
    dsimp only [zRet]
    refine go_bipush (nI 47) (pc := 13) dX10_read_13 (by decide) ?_
    refine go_callS ml_X10_24 mt_J9_min_7cf53 (pc := 15) dX10_read_15 (c_J9_minN (by omega) (by decide)) (by decide) (by decide) rfl rfl (Nat.le_of_ble_eq_true rfl) (fun r σ' hp => ?_)
    obtain ⟨rfl, hσ⟩ := hp
    rw [hσ]
    clear hσ σ'
    dsimp only [zRet]
    refine go_istore_n (i := 2) (pc := 18) dX10_read_18 rfl (by decide) ?_
    refine go_iconst (nI 0) (pc := 19) dX10_read_19 (by decide) ?_
    refine go_istore_n (i := 3) (pc := 20) dX10_read_20 rfl (by decide) ?_
    refine go_iconst (nI 0) (pc := 21) dX10_read_21 (by decide) ?_
    refine go_istore (pc := 22) dX10_read_22 (by decide) ?_
    exact loop 0 _ (by omega) (by omega) hW (Nat.zero_le _) (by unfold mouF; rw [if_neg (by omega)]; rfl) (fun j hj => absurd hj (by omega)) FrG.rf
  · first | rw [zb_0d] at h4 | rw [zn_eq0 (by omega)] at h4 | rw [zi_eq0] at h4
    refine go_iconst (nI 0) (pc := 7) dX10_read_7 (by decide) ?_
    refine go_ireturn (pc := 8) dX10_read_8 rfl ?_
    have e : L = 0 := by omega
    have em : mouF nt L f = (none, 0) := by unfold mouF; rw [if_pos e]
    rw [em]
    exact ⟨rfl, ⟨hW.1, hW.2.1, fun j hj => by unfold mouP mouQ; rw [if_pos (show j < nt by omega), if_pos (show j < nt by omega)]; exact hW.2.2 j hj⟩, FrG.rf⟩

theorem c_X11_mouths {E : zE} {σ : zT} {tx : Nat × (Nat → Nat)} {bd : Nat × (Nat → Nat) × (Nat → Nat)} {sk : Nat × (Nat → Nat)} {tw : Nat × (Nat → Nat) × (Nat → Nat)} {xs : List Nat} {ld : Nat × (Nat → Nat)} {pa sh : Nat × (Nat → Nat → Nat)} {ru : Nat × (Nat → Nat) × (Nat → Nat)} {to : Nat × (Nat → Int64)} (hC : ClsIs σ tx bd sk tw xs ld pa sh ru to) : CalM E 4 yX11_mouths cX11_mouths 2 (some .int) [.ref (zA E 0 0)] σ (fun r σ' => r = some (.int (match (mouF tw.1 tx.1 tx.2).1 with | none => nI (mouF tw.1 tx.1 tx.2).2 | some q => mF q)) ∧ ClsIs σ' (0, tx.2) bd sk (match (mouF tw.1 tx.1 tx.2).1 with | none => (tw.1 + (mouF tw.1 tx.1 tx.2).2, mouP tw.1 tx.1 tw.2.1 tx.2, mouQ tw.1 tx.1 tw.2.2 tx.2) | some _ => tw) xs ld pa sh ru to ∧ Fr33 σ σ') := by
  refine cal_of_go (own := RX11) rfl (by decide +kernel) (Nat.le_of_ble_eq_true rfl) ?_
  have hL := hC.2.2.2.2.2.1
  have hn := hL.b
  have hok := hL.1
  have hB0 := hC.2.2.1
  have hnc := hB0.1
  have hT := hC.2.1
  refine go_aload_n (i := 0) (pc := 0) dX11_mouths_0 rfl rfl ?_
  refine go_getr2 fl_X11_33 (pc := 1) dX11_mouths_1 (by first | rfl | (apply zL_ci <;> assumption) | (apply zR_ci <;> assumption)) (by first | rfl | (apply zL_in <;> first | assumption | decide) | (apply zR_in <;> first | assumption | decide)) (by first | rfl | (apply zL_fr0 <;> assumption) | (apply zL_fr1 <;> assumption) | (apply zR_fr0 <;> assumption) | (apply zR_fr1 <;> assumption) | (apply zR_fr2 <;> assumption) | (apply zR_fr3 <;> assumption)) ?_
  refine go_aload_n (i := 0) (pc := 4) dX11_mouths_4 rfl rfl ?_
  refine go_getr2 fl_X11_10 (pc := 5) dX11_mouths_5 (by first | rfl | (apply zL_ci <;> assumption) | (apply zR_ci <;> assumption)) (by first | rfl | (apply zL_in <;> first | assumption | decide) | (apply zR_in <;> first | assumption | decide)) (by first | rfl | (apply zL_fr0 <;> assumption) | (apply zL_fr1 <;> assumption) | (apply zR_fr0 <;> assumption) | (apply zR_fr1 <;> assumption) | (apply zR_fr2 <;> assumption) | (apply zR_fr3 <;> assumption)) ?_
  refine go_callV ml_X11_142 mt_X10_read (pc := 8) dX11_mouths_8 (c_X10_read hT hC.2.2.2.2.1) (by first | rfl | (apply zL_cq <;> assumption) | (apply zR_cq <;> assumption)) rfl (by first | rfl | (apply zL_in <;> first | assumption | decide) | (apply zR_in <;> first | assumption | decide)) (by decide) (by decide) rfl rfl (Nat.le_of_ble_eq_true rfl) (fun r σ' hp => ?_)
  obtain ⟨rfl, hp⟩ := hp
  dsimp only [zRet]
  refine go_istore_n (i := 1) (pc := 11) dX11_mouths_11 rfl (by decide) ?_
  refine go_aload_n (i := 0) (pc := 12) dX11_mouths_12 rfl rfl ?_
  refine go_getr2 fl_X11_10 (pc := 13) dX11_mouths_13 (by first | rfl | (apply zL_ci <;> assumption) | (apply zR_ci <;> assumption)) (by first | rfl | (apply zL_in <;> first | assumption | decide) | (apply zR_in <;> first | assumption | decide)) (by first | rfl | (apply zL_fr0 <;> assumption) | (apply zL_fr1 <;> assumption) | (apply zR_fr0 <;> assumption) | (apply zR_fr1 <;> assumption) | (apply zR_fr2 <;> assumption) | (apply zR_fr3 <;> assumption)) ?_
  refine go_callV ml_X11_126 mt_X8_clear (pc := 16) dX11_mouths_16 (c_X8_clear) (by first | rfl | (apply zL_cq <;> assumption) | (apply zR_cq <;> assumption)) rfl (by first | rfl | (apply zL_in <;> first | assumption | decide) | (apply zR_in <;> first | assumption | decide)) (by decide) (by decide) rfl rfl (Nat.le_of_ble_eq_true rfl) (fun r σ' hp => ?_)
  obtain ⟨rfl, rfl⟩ := hp
  dsimp only [zRet]
  refine go_iload_n (i := 1) (pc := 19) dX11_mouths_19 rfl rfl ?_
  refine go_ireturn (pc := 20) dX11_mouths_20 rfl ?_
  have hft : ∀ τ : zT, FrG [1] τ (uS τ 1 1 (nI 0)) := fun τ => FrG.rf.uS (by simp)
  cases hF : (mouF tw.1 tx.1 tx.2).1 with
  | none =>
    rw [hF] at hp
    exact ⟨rfl, (hC.setTw (tw' := (_, _, _)) hp.2 hp.1).noT, (Fr33.of hp.2 (by simp)).tr (Fr33.of (hft _) (by simp))⟩
  | some q =>
    rw [hF] at hp
    exact ⟨rfl, (hC.setTw hp.2 hp.1).noT, (Fr33.of hp.2 (by simp)).tr (Fr33.of (hft _) (by simp))⟩

