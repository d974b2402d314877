/-! the log -/
def aLen (v : Nat) : Nat := if v = 119 ∨ v = 103 then 2 else if v = 109 ∨ v = 112 ∨ v = 99 ∨ v = 100 then 3 else 0
def fAct (a i v : Nat) : Bool := if i = 1 ∧ (a = 109 ∨ a = 112 ∨ a = 103) then decide (97 ≤ v ∧ v ≤ 108) else decide ((48 ≤ v ∧ v ≤ 57) ∧ ¬ (a = 112 ∧ v = 48))
/-- an act at p: is it one; behind it, or the fault -/
def aOne (f : Nat → Nat) (lim p : Nat) : Bool × Nat := if aLen (f p) = 0 then (false, p) else if lim ≤ p + 1 then (false, lim) else if fAct (f p) 1 (f (p + 1)) = false then (false, p + 1) else if aLen (f p) = 2 then (true, p + 2) else if lim ≤ p + 2 then (false, lim) else if fAct (f p) 2 (f (p + 2)) = false then (false, p + 2) else (true, p + 3)
def logR (f : Nat → Nat) (lim : Nat) : Nat → Nat → Option Nat
  | 0, _ => none
  | k + 1, p => if lim ≤ p then none else if (aOne f lim p).1 = false then some (aOne f lim p).2 else logR f lim k (aOne f lim p).2
def logQ (L : Nat) (f : Nat → Nat) : Option Nat := logR f (min L 60) 61 0
def logF (L : Nat) (f : Nat → Nat) : Option Nat := match logQ L f with
  | some q => some q
  | none => if 60 < L then some 60 else none
theorem aOne_t {f : Nat → Nat} {lim p : Nat} (h : (aOne f lim p).1 = true) : (aOne f lim p).2 = p + aLen (f p) ∧ p + aLen (f p) ≤ lim ∧ fAct (f p) 1 (f (p + 1)) = true ∧ (aLen (f p) = 2 ∨ (aLen (f p) = 3 ∧ fAct (f p) 2 (f (p + 2)) = true)) := by
  have hl : aLen (f p) = 0 ∨ aLen (f p) = 2 ∨ aLen (f p) = 3 := by unfold aLen; split; omega; split <;> omega
  unfold aOne at h ⊢
  split at h
  · cases h
  · rename_i h0
    split at h
    · cases h
    · rename_i h1
      split at h
      · cases h
      · rename_i h2
        rw [if_neg h0, if_neg h1, if_neg h2]
        have h2' : fAct (f p) 1 (f (p + 1)) = true := by simpa using h2
        split at h
        · rename_i h3
          rw [if_pos h3]
          exact ⟨by dsimp only; omega, by omega, h2', Or.inl h3⟩
        · rename_i h3
          rw [if_neg h3]
          split at h
          · cases h
          · rename_i h4
            split at h
            · cases h
            · rename_i h5
              rw [if_neg h4, if_neg h5]
              exact ⟨by dsimp only; omega, by omega, h2', Or.inr ⟨by omega, by simpa using h5⟩⟩
theorem aOne_f {f : Nat → Nat} {lim p : Nat} (hp : p < lim) : (aOne f lim p).2 ≤ lim := by
  unfold aOne
  split
  · exact Nat.le_of_lt hp
  · split
    · exact Nat.le_refl _
    · split
      · dsimp only; omega
      · split
        · dsimp only; omega
        · split
          · exact Nat.le_refl _
          · split <;> (dsimp only; omega)
/-- what the act at p answers and does -/
def dAct (V : zV) (f ρ : Nat → Nat) (p : Nat) : Int32 × (Nat → Nat) := if f p = 119 then (nI (wks V ρ (f (p + 1) - 48)).2.2.1, (wks V ρ (f (p + 1) - 48)).2.2.2) else if f p = 109 then aGuard (vN V) ρ (nI (f (p + 1) - 97)) (nI (f (p + 2) - 48)) else if f p = 112 then aPlant (vN V) ρ (nI (f (p + 1) - 97)) (nI (f (p + 2) - 48)) else if f p = 103 then aGate (vN V) ρ (nI (f (p + 1) - 97)) else aPrice ρ (nI (if f p = 99 then 0 else 1)) (nI (10 * (f (p + 1) - 48) + (f (p + 2) - 48)))
/-- done, refused, the row -/
def logX (V : zV) (f : Nat → Nat) (L : Nat) : Nat → Nat → (Nat → Nat) → Nat → Nat × Nat × (Nat → Nat)
  | 0, _, ρ, n => (n, 0, ρ)
  | k + 1, p, ρ, n => if L ≤ p then (n, 0, ρ) else if (dAct V f ρ p).1.toInt < 0 then (n, 1, (dAct V f ρ p).2) else logX V f L k (p + aLen (f p)) (dAct V f ρ p).2 (n + 1)

theorem c_X11_actLength {E : zE} {σ : zT} {v : Nat} (hv : v < 256) : CalM E 0 yX11_actLength cX11_actLength 1 (some .int) [.int (nI v)] σ (fun r σ' => r = some (.int (nI (aLen v))) ∧ σ' = σ) := by
  refine cal_of_go (own := RX11) rfl (by decide +kernel) (Nat.le_of_ble_eq_true rfl) ?_
  refine go_iload_n (i := 0) (pc := 0) dX11_actLength_0 rfl rfl ?_
  rcases (show v = 99 ∨ v = 100 ∨ v = 103 ∨ v = 109 ∨ v = 112 ∨ v = 119 ∨ (v ≠ 99 ∧ v ≠ 100 ∧ v ≠ 103 ∧ v ≠ 109 ∧ v ≠ 112 ∧ v ≠ 119) by omega) with h1 | h1 | h1 | h1 | h1 | h1 | h1
  · refine go_lookup (off := 61) 62 (pc := 1) dX11_actLength_1 (by decide) (by rw [nI_toInt (by omega)]; rw [h1]; rfl) (by decide) ?_
    refine go_iconst (nI 3) (pc := 62) dX11_actLength_62 (by decide) ?_
    refine go_ireturn (pc := 63) dX11_actLength_63 rfl ?_
    exact ⟨by unfold aLen; rw [if_neg (by omega), if_pos (by omega)], rfl⟩
  · refine go_lookup (off := 61) 62 (pc := 1) dX11_actLength_1 (by decide) (by rw [nI_toInt (by omega)]; rw [h1]; rfl) (by decide) ?_
    refine go_iconst (nI 3) (pc := 62) dX11_actLength_62 (by decide) ?_
    refine go_ireturn (pc := 63) dX11_actLength_63 rfl ?_
    exact ⟨by unfold aLen; rw [if_neg (by omega), if_pos (by omega)], rfl⟩
  · refine go_lookup (off := 59) 60 (pc := 1) dX11_actLength_1 (by decide) (by rw [nI_toInt (by omega)]; rw [h1]; rfl) (by decide) ?_
    refine go_iconst (nI 2) (pc := 60) dX11_actLength_60 (by decide) ?_
    refine go_ireturn (pc := 61) dX11_actLength_61 rfl ?_
    exact ⟨by unfold aLen; rw [if_pos (by omega)], rfl⟩
  · refine go_lookup (off := 61) 62 (pc := 1) dX11_actLength_1 (by decide) (by rw [nI_toInt (by omega)]; rw [h1]; rfl) (by decide) ?_
    refine go_iconst (nI 3) (pc := 62) dX11_actLength_62 (by decide) ?_
    refine go_ireturn (pc := 63) dX11_actLength_63 rfl ?_
    exact ⟨by unfold aLen; rw [if_neg (by omega), if_pos (by omega)], rfl⟩
  · refine go_lookup (off := 61) 62 (pc := 1) dX11_actLength_1 (by decide) (by rw [nI_toInt (by omega)]; rw [h1]; rfl) (by decide) ?_
    refine go_iconst (nI 3) (pc := 62) dX11_actLength_62 (by decide) ?_
    refine go_ireturn (pc := 63) dX11_actLength_63 rfl ?_
    exact ⟨by unfold aLen; rw [if_neg (by omega), if_pos (by omega)], rfl⟩
  · refine go_lookup (off := 59) 60 (pc := 1) dX11_actLength_1 (by decide) (by rw [nI_toInt (by omega)]; rw [h1]; rfl) (by decide) ?_
    refine go_iconst (nI 2) (pc := 60) dX11_actLength_60 (by decide) ?_
    refine go_ireturn (pc := 61) dX11_actLength_61 rfl ?_
    exact ⟨by unfold aLen; rw [if_pos (by omega)], rfl⟩
  · refine go_lookup (off := 63) 64 (pc := 1) dX11_actLength_1 (by decide) (by rw [nI_toInt (by omega)]; show Op.lookupswitch.offset [(99, 61), (100, 61), (103, 59), (109, 61), (112, 61), (119, 59)] (63) _ = _; rw [Op.lookupswitch.offset_cons, if_neg (by omega), Op.lookupswitch.offset_cons, if_neg (by omega), Op.lookupswitch.offset_cons, if_neg (by omega), Op.lookupswitch.offset_cons, if_neg (by omega), Op.lookupswitch.offset_cons, if_neg (by omega), Op.lookupswitch.offset_cons, if_neg (by omega)]; rfl) (by decide) ?_
    refine go_iconst (nI 0) (pc := 64) dX11_actLength_64 (by decide) ?_
    refine go_ireturn (pc := 65) dX11_actLength_65 rfl ?_
    exact ⟨by unfold aLen; rw [if_neg (by omega), if_neg (by omega)], rfl⟩

theorem c_X11_fitsAct {E : zE} {σ : zT} {a i v : Nat} (ha : a < 256) (hi : i < 3) (hv : v < 256) : CalM E 1 yX11_fitsAct cX11_fitsAct 4 (some .boolean) [.int (nI a), .int (nI i), .int (nI v)] σ (fun r σ' => r = some (.int (zb (fAct a i v))) ∧ σ' = σ) := by
  refine cal_of_go (own := RX11) rfl (by decide +kernel) (Nat.le_of_ble_eq_true rfl) ?_
  refine go_iload_n (i := 0) (pc := 0) dX11_fitsAct_0 rfl rfl ?_
  refine go_bipush (nI 109) (pc := 1) dX11_fitsAct_1 (by decide) ?_
  refine go_icmp_eq 18 (pc := 3) dX11_fitsAct_3 (by decide) (fun h3 => ?_) (fun h3 => ?_)
  · first | rw [nI_eq (by omega) (by omega)] at h3 | rw [zi_eqN (by omega)] at h3 | rw [zi_Neq (by omega)] at h3 | rw [zi_eq] at h3
    refine go_iconst (nI 1) (pc := 18) dX11_fitsAct_18 (by decide) ?_
    refine go_goto 23 (pc := 19) dX11_fitsAct_19 (by decide) ?_
    refine go_istore_n (i := 3) (pc := 23) dX11_fitsAct_23 rfl (by decide) ?_
    refine go_iload_n (i := 1) (pc := 24) dX11_fitsAct_24 rfl rfl ?_
    refine go_iconst (nI 1) (pc := 25) dX11_fitsAct_25 (by decide) ?_
    refine go_icmp_ne 51 (pc := 26) dX11_fitsAct_26 (by decide) (fun h26 => ?_) (fun h26 => ?_)
    · first | rw [nI_eq (by omega) (by omega)] at h26 | rw [zi_eqN (by omega)] at h26 | rw [zi_Neq (by omega)] at h26 | rw [zi_eq] at h26
      refine go_iload_n (i := 2) (pc := 51) dX11_fitsAct_51 rfl rfl ?_
      refine go_callS ml_X11_134 mt_X11_isDigit (pc := 52) dX11_fitsAct_52 (c_X11_isDigit) (by decide) (by decide) rfl rfl (Nat.le_of_ble_eq_true rfl) (fun r σ' hp => ?_)
      obtain ⟨rfl, hσ⟩ := hp
      rw [hσ]
      clear hσ σ'
      dsimp only [zRet]
      refine go_if_eq 74 (pc := 55) dX11_fitsAct_55 (by decide) (fun h55 => ?_) (fun h55 => ?_)
      · rw [zb_0d, nI_toInt (by omega)] at h55
        refine go_iconst (nI 0) (pc := 74) dX11_fitsAct_74 (by decide) ?_
        refine go_zreturn (pc := 75) dX11_fitsAct_75 rfl rfl ?_
        refine ⟨?_, rfl⟩
        have ef : fAct a i v = false := by
          unfold fAct
          first
            | (rw [if_pos (by omega)]; exact decide_eq_false (by omega))
            | (rw [if_neg (by omega)]; exact decide_eq_false (by omega))
        rw [ef]
        rfl
      · rw [zb_0d, nI_toInt (by omega)] at h55
        refine go_iload_n (i := 0) (pc := 58) dX11_fitsAct_58 rfl rfl ?_
        refine go_bipush (nI 112) (pc := 59) dX11_fitsAct_59 (by decide) ?_
        refine go_icmp_ne 70 (pc := 61) dX11_fitsAct_61 (by decide) (fun h61 => ?_) (fun h61 => ?_)
        · first | rw [nI_eq (by omega) (by omega)] at h61 | rw [zi_eqN (by omega)] at h61 | rw [zi_Neq (by omega)] at h61 | rw [zi_eq] at h61
          refine go_iconst (nI 1) (pc := 70) dX11_fitsAct_70 (by decide) ?_
          refine go_goto 75 (pc := 71) dX11_fitsAct_71 (by decide) ?_
          refine go_zreturn (pc := 75) dX11_fitsAct_75 rfl rfl ?_
          refine ⟨?_, rfl⟩
          have ef : fAct a i v = true := by
            unfold fAct
            first
              | (rw [if_pos (by omega)]; exact decide_eq_true (by omega))
              | (rw [if_neg (by omega)]; exact decide_eq_true (by omega))
          rw [ef]
          rfl
        · first | rw [nI_eq (by omega) (by omega)] at h61 | rw [zi_eqN (by omega)] at h61 | rw [zi_Neq (by omega)] at h61 | rw [zi_eq] at h61
          refine go_iload_n (i := 2) (pc := 64) dX11_fitsAct_64 rfl rfl ?_
          refine go_bipush (nI 48) (pc := 65) dX11_fitsAct_65 (by decide) ?_
          refine go_icmp_eq 74 (pc := 67) dX11_fitsAct_67 (by decide) (fun h67 => ?_) (fun h67 => ?_)
          · first | rw [nI_eq (by omega) (by omega)] at h67 | rw [zi_eqN (by omega)] at h67 | rw [zi_Neq (by omega)] at h67 | rw [zi_eq] at h67
            refine go_iconst (nI 0) (pc := 74) dX11_fitsAct_74 (by decide) ?_
            refine go_zreturn (pc := 75) dX11_fitsAct_75 rfl rfl ?_
            refine ⟨?_, rfl⟩
            have ef : fAct a i v = false := by
              unfold fAct
              first
                | (rw [if_pos (by omega)]; exact decide_eq_false (by omega))
                | (rw [if_neg (by omega)]; exact decide_eq_false (by omega))
            rw [ef]
            rfl
          · first | rw [nI_eq (by omega) (by omega)] at h67 | rw [zi_eqN (by omega)] at h67 | rw [zi_Neq (by omega)] at h67 | rw [zi_eq] at h67
            refine go_iconst (nI 1) (pc := 70) dX11_fitsAct_70 (by decide) ?_
            refine go_goto 75 (pc := 71) dX11_fitsAct_71 (by decide) ?_
            refine go_zreturn (pc := 75) dX11_fitsAct_75 rfl rfl ?_
            refine ⟨?_, rfl⟩
            have ef : fAct a i v = true := by
              unfold fAct
              first
                | (rw [if_pos (by omega)]; exact decide_eq_true (by omega))
                | (rw [if_neg (by omega)]; exact decide_eq_true (by omega))
            rw [ef]
            rfl
    · first | rw [nI_eq (by omega) (by omega)] at h26 | rw [zi_eqN (by omega)] at h26 | rw [zi_Neq (by omega)] at h26 | rw [zi_eq] at h26
      refine go_iload_n (i := 3) (pc := 29) dX11_fitsAct_29 rfl rfl ?_
      first
        | (refine go_if_eq 51 (pc := 30) dX11_fitsAct_30 (by decide) (fun h30 => absurd h30 (by decide)) (fun h30 => ?_)
           refine go_iload_n (i := 2) (pc := 33) dX11_fitsAct_33 rfl rfl ?_
           refine go_bipush (nI 97) (pc := 34) dX11_fitsAct_34 (by decide) ?_
           refine go_icmp_lt 49 (pc := 36) dX11_fitsAct_36 (by decide) (fun h36 => ?_) (fun h36 => ?_)
           · first | rw [nI_ltI (by omega) (by omega)] at h36 | rw [zi_ltN (by omega)] at h36 | rw [zi_Nlt (by omega)] at h36 | rw [zi_lt] at h36
             refine go_iconst (nI 0) (pc := 49) dX11_fitsAct_49 (by decide) ?_
             refine go_zreturn (pc := 50) dX11_fitsAct_50 rfl rfl ?_
             refine ⟨?_, rfl⟩
             have ef : fAct a i v = false := by
               unfold fAct
               first
                 | (rw [if_pos (by omega)]; exact decide_eq_false (by omega))
                 | (rw [if_neg (by omega)]; exact decide_eq_false (by omega))
             rw [ef]
             rfl
           · first | rw [nI_ltI (by omega) (by omega)] at h36 | rw [zi_ltN (by omega)] at h36 | rw [zi_Nlt (by omega)] at h36 | rw [zi_lt] at h36
             refine go_iload_n (i := 2) (pc := 39) dX11_fitsAct_39 rfl rfl ?_
             refine go_bipush (nI 108) (pc := 40) dX11_fitsAct_40 (by decide) ?_
             refine go_icmp_gt 49 (pc := 42) dX11_fitsAct_42 (by decide) (fun h42 => ?_) (fun h42 => ?_)
             · first | rw [nI_ltI (by omega) (by omega)] at h42 | rw [zi_ltN (by omega)] at h42 | rw [zi_Nlt (by omega)] at h42 | rw [zi_lt] at h42
               refine go_iconst (nI 0) (pc := 49) dX11_fitsAct_49 (by decide) ?_
               refine go_zreturn (pc := 50) dX11_fitsAct_50 rfl rfl ?_
               refine ⟨?_, rfl⟩
               have ef : fAct a i v = false := by
                 unfold fAct
                 first
                   | (rw [if_pos (by omega)]; exact decide_eq_false (by omega))
                   | (rw [if_neg (by omega)]; exact decide_eq_false (by omega))
               rw [ef]
               rfl
             · first | rw [nI_ltI (by omega) (by omega)] at h42 | rw [zi_ltN (by omega)] at h42 | rw [zi_Nlt (by omega)] at h42 | rw [zi_lt] at h42
               refine go_iconst (nI 1) (pc := 45) dX11_fitsAct_45 (by decide) ?_
               refine go_goto 50 (pc := 46) dX11_fitsAct_46 (by decide) ?_
               refine go_zreturn (pc := 50) dX11_fitsAct_50 rfl rfl ?_
               refine ⟨?_, rfl⟩
               have ef : fAct a i v = true := by
                 unfold fAct
                 first
                   | (rw [if_pos (by omega)]; exact decide_eq_true (by omega))
                   | (rw [if_neg (by omega)]; exact decide_eq_true (by omega))
               rw [ef]
               rfl)
        | (refine go_if_eq 51 (pc := 30) dX11_fitsAct_30 (by decide) (fun h30 => ?_) (fun h30 => absurd rfl h30)
           refine go_iload_n (i := 2) (pc := 51) dX11_fitsAct_51 rfl rfl ?_
           refine go_callS ml_X11_134 mt_X11_isDigit (pc := 52) dX11_fitsAct_52 (c_X11_isDigit) (by decide) (by decide) rfl rfl (Nat.le_of_ble_eq_true rfl) (fun r σ' hp => ?_)
           obtain ⟨rfl, hσ⟩ := hp
           rw [hσ]
           clear hσ σ'
           dsimp only [zRet]
           refine go_if_eq 74 (pc := 55) dX11_fitsAct_55 (by decide) (fun h55 => ?_) (fun h55 => ?_)
           · rw [zb_0d, nI_toInt (by omega)] at h55
             refine go_iconst (nI 0) (pc := 74) dX11_fitsAct_74 (by decide) ?_
             refine go_zreturn (pc := 75) dX11_fitsAct_75 rfl rfl ?_
             refine ⟨?_, rfl⟩
             have ef : fAct a i v = false := by
               unfold fAct
               first
                 | (rw [if_pos (by omega)]; exact decide_eq_false (by omega))
                 | (rw [if_neg (by omega)]; exact decide_eq_false (by omega))
             rw [ef]
             rfl
           · rw [zb_0d, nI_toInt (by omega)] at h55
             refine go_iload_n (i := 0) (pc := 58) dX11_fitsAct_58 rfl rfl ?_
             refine go_bipush (nI 112) (pc := 59) dX11_fitsAct_59 (by decide) ?_
             refine go_icmp_ne 70 (pc := 61) dX11_fitsAct_61 (by decide) (fun h61 => ?_) (fun h61 => ?_)
             · first | rw [nI_eq (by omega) (by omega)] at h61 | rw [zi_eqN (by omega)] at h61 | rw [zi_Neq (by omega)] at h61 | rw [zi_eq] at h61
               refine go_iconst (nI 1) (pc := 70) dX11_fitsAct_70 (by decide) ?_
               refine go_goto 75 (pc := 71) dX11_fitsAct_71 (by decide) ?_
               refine go_zreturn (pc := 75) dX11_fitsAct_75 rfl rfl ?_
               refine ⟨?_, rfl⟩
               have ef : fAct a i v = true := by
                 unfold fAct
                 first
                   | (rw [if_pos (by omega)]; exact decide_eq_true (by omega))
                   | (rw [if_neg (by omega)]; exact decide_eq_true (by omega))
               rw [ef]
               rfl
             · first | rw [nI_eq (by omega) (by omega)] at h61 | rw [zi_eqN (by omega)] at h61 | rw [zi_Neq (by omega)] at h61 | rw [zi_eq] at h61
               refine go_iload_n (i := 2) (pc := 64) dX11_fitsAct_64 rfl rfl ?_
               refine go_bipush (nI 48) (pc := 65) dX11_fitsAct_65 (by decide) ?_
               refine go_icmp_eq 74 (pc := 67) dX11_fitsAct_67 (by decide) (fun h67 => ?_) (fun h67 => ?_)
               · first | rw [nI_eq (by omega) (by omega)] at h67 | rw [zi_eqN (by omega)] at h67 | rw [zi_Neq (by omega)] at h67 | rw [zi_eq] at h67
                 refine go_iconst (nI 0) (pc := 74) dX11_fitsAct_74 (by decide) ?_
                 refine go_zreturn (pc := 75) dX11_fitsAct_75 rfl rfl ?_
                 refine ⟨?_, rfl⟩
                 have ef : fAct a i v = false := by
                   unfold fAct
                   first
                     | (rw [if_pos (by omega)]; exact decide_eq_false (by omega))
                     | (rw [if_neg (by omega)]; exact decide_eq_false (by omega))
                 rw [ef]
                 rfl
               · first | rw [nI_eq (by omega) (by omega)] at h67 | rw [zi_eqN (by omega)] at h67 | rw [zi_Neq (by omega)] at h67 | rw [zi_eq] at h67
                 refine go_iconst (nI 1) (pc := 70) dX11_fitsAct_70 (by decide) ?_
                 refine go_goto 75 (pc := 71) dX11_fitsAct_71 (by decide) ?_
                 refine go_zreturn (pc := 75) dX11_fitsAct_75 rfl rfl ?_
                 refine ⟨?_, rfl⟩
                 have ef : fAct a i v = true := by
                   unfold fAct
                   first
                     | (rw [if_pos (by omega)]; exact decide_eq_true (by omega))
                     | (rw [if_neg (by omega)]; exact decide_eq_true (by omega))
                 rw [ef]
                 rfl)
  · first | rw [nI_eq (by omega) (by omega)] at h3 | rw [zi_eqN (by omega)] at h3 | rw [zi_Neq (by omega)] at h3 | rw [zi_eq] at h3
    refine go_iload_n (i := 0) (pc := 6) dX11_fitsAct_6 rfl rfl ?_
    refine go_bipush (nI 112) (pc := 7) dX11_fitsAct_7 (by decide) ?_
    refine go_icmp_eq 18 (pc := 9) dX11_fitsAct_9 (by decide) (fun h9 => ?_) (fun h9 => ?_)
    · first | rw [nI_eq (by omega) (by omega)] at h9 | rw [zi_eqN (by omega)] at h9 | rw [zi_Neq (by omega)] at h9 | rw [zi_eq] at h9
      refine go_iconst (nI 1) (pc := 18) dX11_fitsAct_18 (by decide) ?_
      refine go_goto 23 (pc := 19) dX11_fitsAct_19 (by decide) ?_
      refine go_istore_n (i := 3) (pc := 23) dX11_fitsAct_23 rfl (by decide) ?_
      refine go_iload_n (i := 1) (pc := 24) dX11_fitsAct_24 rfl rfl ?_
      refine go_iconst (nI 1) (pc := 25) dX11_fitsAct_25 (by decide) ?_
      refine go_icmp_ne 51 (pc := 26) dX11_fitsAct_26 (by decide) (fun h26 => ?_) (fun h26 => ?_)
      · first | rw [nI_eq (by omega) (by omega)] at h26 | rw [zi_eqN (by omega)] at h26 | rw [zi_Neq (by omega)] at h26 | rw [zi_eq] at h26
        refine go_iload_n (i := 2) (pc := 51) dX11_fitsAct_51 rfl rfl ?_
        refine go_callS ml_X11_134 mt_X11_isDigit (pc := 52) dX11_fitsAct_52 (c_X11_isDigit) (by decide) (by decide) rfl rfl (Nat.le_of_ble_eq_true rfl) (fun r σ' hp => ?_)
        obtain ⟨rfl, hσ⟩ := hp
        rw [hσ]
        clear hσ σ'
        dsimp only [zRet]
        refine go_if_eq 74 (pc := 55) dX11_fitsAct_55 (by decide) (fun h55 => ?_) (fun h55 => ?_)
        · rw [zb_0d, nI_toInt (by omega)] at h55
          refine go_iconst (nI 0) (pc := 74) dX11_fitsAct_74 (by decide) ?_
          refine go_zreturn (pc := 75) dX11_fitsAct_75 rfl rfl ?_
          refine ⟨?_, rfl⟩
          have ef : fAct a i v = false := by
            unfold fAct
            first
              | (rw [if_pos (by omega)]; exact decide_eq_false (by omega))
              | (rw [if_neg (by omega)]; exact decide_eq_false (by omega))
          rw [ef]
          rfl
        · rw [zb_0d, nI_toInt (by omega)] at h55
          refine go_iload_n (i := 0) (pc := 58) dX11_fitsAct_58 rfl rfl ?_
          refine go_bipush (nI 112) (pc := 59) dX11_fitsAct_59 (by decide) ?_
          refine go_icmp_ne 70 (pc := 61) dX11_fitsAct_61 (by decide) (fun h61 => ?_) (fun h61 => ?_)
          · first | rw [nI_eq (by omega) (by omega)] at h61 | rw [zi_eqN (by omega)] at h61 | rw [zi_Neq (by omega)] at h61 | rw [zi_eq] at h61
            refine go_iconst (nI 1) (pc := 70) dX11_fitsAct_70 (by decide) ?_
            refine go_goto 75 (pc := 71) dX11_fitsAct_71 (by decide) ?_
            refine go_zreturn (pc := 75) dX11_fitsAct_75 rfl rfl ?_
            refine ⟨?_, rfl⟩
            have ef : fAct a i v = true := by
              unfold fAct
              first
                | (rw [if_pos (by omega)]; exact decide_eq_true (by omega))
                | (rw [if_neg (by omega)]; exact decide_eq_true (by omega))
            rw [ef]
            rfl
          · first | rw [nI_eq (by omega) (by omega)] at h61 | rw [zi_eqN (by omega)] at h61 | rw [zi_Neq (by omega)] at h61 | rw [zi_eq] at h61
            refine go_iload_n (i := 2) (pc := 64) dX11_fitsAct_64 rfl rfl ?_
            refine go_bipush (nI 48) (pc := 65) dX11_fitsAct_65 (by decide) ?_
            refine go_icmp_eq 74 (pc := 67) dX11_fitsAct_67 (by decide) (fun h67 => ?_) (fun h67 => ?_)
            · first | rw [nI_eq (by omega) (by omega)] at h67 | rw [zi_eqN (by omega)] at h67 | rw [zi_Neq (by omega)] at h67 | rw [zi_eq] at h67
              refine go_iconst (nI 0) (pc := 74) dX11_fitsAct_74 (by decide) ?_
              refine go_zreturn (pc := 75) dX11_fitsAct_75 rfl rfl ?_
              refine ⟨?_, rfl⟩
              have ef : fAct a i v = false := by
                unfold fAct
                first
                  | (rw [if_pos (by omega)]; exact decide_eq_false (by omega))
                  | (rw [if_neg (by omega)]; exact decide_eq_false (by omega))
              rw [ef]
              rfl
            · first | rw [nI_eq (by omega) (by omega)] at h67 | rw [zi_eqN (by omega)] at h67 | rw [zi_Neq (by omega)] at h67 | rw [zi_eq] at h67
              refine go_iconst (nI 1) (pc := 70) dX11_fitsAct_70 (by decide) ?_
              refine go_goto 75 (pc := 71) dX11_fitsAct_71 (by decide) ?_
              refine go_zreturn (pc := 75) dX11_fitsAct_75 rfl rfl ?_
              refine ⟨?_, rfl⟩
              have ef : fAct a i v = true := by
                unfold fAct
                first
                  | (rw [if_pos (by omega)]; exact decide_eq_true (by omega))
                  | (rw [if_neg (by omega)]; exact decide_eq_true (by omega))
              rw [ef]
              rfl
      · first | rw [nI_eq (by omega) (by omega)] at h26 | rw [zi_eqN (by omega)] at h26 | rw [zi_Neq (by omega)] at h26 | rw [zi_eq] at h26
        refine go_iload_n (i := 3) (pc := 29) dX11_fitsAct_29 rfl rfl ?_
        first
          | (refine go_if_eq 51 (pc := 30) dX11_fitsAct_30 (by decide) (fun h30 => absurd h30 (by decide)) (fun h30 => ?_)
             refine go_iload_n (i := 2) (pc := 33) dX11_fitsAct_33 rfl rfl ?_
             refine go_bipush (nI 97) (pc := 34) dX11_fitsAct_34 (by decide) ?_
             refine go_icmp_lt 49 (pc := 36) dX11_fitsAct_36 (by decide) (fun h36 => ?_) (fun h36 => ?_)
             · first | rw [nI_ltI (by omega) (by omega)] at h36 | rw [zi_ltN (by omega)] at h36 | rw [zi_Nlt (by omega)] at h36 | rw [zi_lt] at h36
               refine go_iconst (nI 0) (pc := 49) dX11_fitsAct_49 (by decide) ?_
               refine go_zreturn (pc := 50) dX11_fitsAct_50 rfl rfl ?_
               refine ⟨?_, rfl⟩
               have ef : fAct a i v = false := by
                 unfold fAct
                 first
                   | (rw [if_pos (by omega)]; exact decide_eq_false (by omega))
                   | (rw [if_neg (by omega)]; exact decide_eq_false (by omega))
               rw [ef]
               rfl
             · first | rw [nI_ltI (by omega) (by omega)] at h36 | rw [zi_ltN (by omega)] at h36 | rw [zi_Nlt (by omega)] at h36 | rw [zi_lt] at h36
               refine go_iload_n (i := 2) (pc := 39) dX11_fitsAct_39 rfl rfl ?_
               refine go_bipush (nI 108) (pc := 40) dX11_fitsAct_40 (by decide) ?_
               refine go_icmp_gt 49 (pc := 42) dX11_fitsAct_42 (by decide) (fun h42 => ?_) (fun h42 => ?_)
               · first | rw [nI_ltI (by omega) (by omega)] at h42 | rw [zi_ltN (by omega)] at h42 | rw [zi_Nlt (by omega)] at h42 | rw [zi_lt] at h42
                 refine go_iconst (nI 0) (pc := 49) dX11_fitsAct_49 (by decide) ?_
                 refine go_zreturn (pc := 50) dX11_fitsAct_50 rfl rfl ?_
                 refine ⟨?_, rfl⟩
                 have ef : fAct a i v = false := by
                   unfold fAct
                   first
                     | (rw [if_pos (by omega)]; exact decide_eq_false (by omega))
                     | (rw [if_neg (by omega)]; exact decide_eq_false (by omega))
                 rw [ef]
                 rfl
               · first | rw [nI_ltI (by omega) (by omega)] at h42 | rw [zi_ltN (by omega)] at h42 | rw [zi_Nlt (by omega)] at h42 | rw [zi_lt] at h42
                 refine go_iconst (nI 1) (pc := 45) dX11_fitsAct_45 (by decide) ?_
                 refine go_goto 50 (pc := 46) dX11_fitsAct_46 (by decide) ?_
                 refine go_zreturn (pc := 50) dX11_fitsAct_50 rfl rfl ?_
                 refine ⟨?_, rfl⟩
                 have ef : fAct a i v = true := by
                   unfold fAct
                   first
                     | (rw [if_pos (by omega)]; exact decide_eq_true (by omega))
                     | (rw [if_neg (by omega)]; exact decide_eq_true (by omega))
                 rw [ef]
                 rfl)
          | (refine go_if_eq 51 (pc := 30) dX11_fitsAct_30 (by decide) (fun h30 => ?_) (fun h30 => absurd rfl h30)
             refine go_iload_n (i := 2) (pc := 51) dX11_fitsAct_51 rfl rfl ?_
             refine go_callS ml_X11_134 mt_X11_isDigit (pc := 52) dX11_fitsAct_52 (c_X11_isDigit) (by decide) (by decide) rfl rfl (Nat.le_of_ble_eq_true rfl) (fun r σ' hp => ?_)
             obtain ⟨rfl, hσ⟩ := hp
             rw [hσ]
             clear hσ σ'
             dsimp only [zRet]
             refine go_if_eq 74 (pc := 55) dX11_fitsAct_55 (by decide) (fun h55 => ?_) (fun h55 => ?_)
             · rw [zb_0d, nI_toInt (by omega)] at h55
               refine go_iconst (nI 0) (pc := 74) dX11_fitsAct_74 (by decide) ?_
               refine go_zreturn (pc := 75) dX11_fitsAct_75 rfl rfl ?_
               refine ⟨?_, rfl⟩
               have ef : fAct a i v = false := by
                 unfold fAct
                 first
                   | (rw [if_pos (by omega)]; exact decide_eq_false (by omega))
                   | (rw [if_neg (by omega)]; exact decide_eq_false (by omega))
               rw [ef]
               rfl
             · rw [zb_0d, nI_toInt (by omega)] at h55
               refine go_iload_n (i := 0) (pc := 58) dX11_fitsAct_58 rfl rfl ?_
               refine go_bipush (nI 112) (pc := 59) dX11_fitsAct_59 (by decide) ?_
               refine go_icmp_ne 70 (pc := 61) dX11_fitsAct_61 (by decide) (fun h61 => ?_) (fun h61 => ?_)
               · first | rw [nI_eq (by omega) (by omega)] at h61 | rw [zi_eqN (by omega)] at h61 | rw [zi_Neq (by omega)] at h61 | rw [zi_eq] at h61
                 refine go_iconst (nI 1) (pc := 70) dX11_fitsAct_70 (by decide) ?_
                 refine go_goto 75 (pc := 71) dX11_fitsAct_71 (by decide) ?_
                 refine go_zreturn (pc := 75) dX11_fitsAct_75 rfl rfl ?_
                 refine ⟨?_, rfl⟩
                 have ef : fAct a i v = true := by
                   unfold fAct
                   first
                     | (rw [if_pos (by omega)]; exact decide_eq_true (by omega))
                     | (rw [if_neg (by omega)]; exact decide_eq_true (by omega))
                 rw [ef]
                 rfl
               · first | rw [nI_eq (by omega) (by omega)] at h61 | rw [zi_eqN (by omega)] at h61 | rw [zi_Neq (by omega)] at h61 | rw [zi_eq] at h61
                 refine go_iload_n (i := 2) (pc := 64) dX11_fitsAct_64 rfl rfl ?_
                 refine go_bipush (nI 48) (pc := 65) dX11_fitsAct_65 (by decide) ?_
                 refine go_icmp_eq 74 (pc := 67) dX11_fitsAct_67 (by decide) (fun h67 => ?_) (fun h67 => ?_)
                 · first | rw [nI_eq (by omega) (by omega)] at h67 | rw [zi_eqN (by omega)] at h67 | rw [zi_Neq (by omega)] at h67 | rw [zi_eq] at h67
                   refine go_iconst (nI 0) (pc := 74) dX11_fitsAct_74 (by decide) ?_
                   refine go_zreturn (pc := 75) dX11_fitsAct_75 rfl rfl ?_
                   refine ⟨?_, rfl⟩
                   have ef : fAct a i v = false := by
                     unfold fAct
                     first
                       | (rw [if_pos (by omega)]; exact decide_eq_false (by omega))
                       | (rw [if_neg (by omega)]; exact decide_eq_false (by omega))
                   rw [ef]
                   rfl
                 · first | rw [nI_eq (by omega) (by omega)] at h67 | rw [zi_eqN (by omega)] at h67 | rw [zi_Neq (by omega)] at h67 | rw [zi_eq] at h67
                   refine go_iconst (nI 1) (pc := 70) dX11_fitsAct_70 (by decide) ?_
                   refine go_goto 75 (pc := 71) dX11_fitsAct_71 (by decide) ?_
                   refine go_zreturn (pc := 75) dX11_fitsAct_75 rfl rfl ?_
                   refine ⟨?_, rfl⟩
                   have ef : fAct a i v = true := by
                     unfold fAct
                     first
                       | (rw [if_pos (by omega)]; exact decide_eq_true (by omega))
                       | (rw [if_neg (by omega)]; exact decide_eq_true (by omega))
                   rw [ef]
                   rfl)
    · first | rw [nI_eq (by omega) (by omega)] at h9 | rw [zi_eqN (by omega)] at h9 | rw [zi_Neq (by omega)] at h9 | rw [zi_eq] at h9
      refine go_iload_n (i := 0) (pc := 12) dX11_fitsAct_12 rfl rfl ?_
      refine go_bipush (nI 103) (pc := 13) dX11_fitsAct_13 (by decide) ?_
      refine go_icmp_ne 22 (pc := 15) dX11_fitsAct_15 (by decide) (fun h15 => ?_) (fun h15 => ?_)
      · first | rw [nI_eq (by omega) (by omega)] at h15 | rw [zi_eqN (by omega)] at h15 | rw [zi_Neq (by omega)] at h15 | rw [zi_eq] at h15
        refine go_iconst (nI 0) (pc := 22) dX11_fitsAct_22 (by decide) ?_
        refine go_istore_n (i := 3) (pc := 23) dX11_fitsAct_23 rfl (by decide) ?_
        refine go_iload_n (i := 1) (pc := 24) dX11_fitsAct_24 rfl rfl ?_
        refine go_iconst (nI 1) (pc := 25) dX11_fitsAct_25 (by decide) ?_
        refine go_icmp_ne 51 (pc := 26) dX11_fitsAct_26 (by decide) (fun h26 => ?_) (fun h26 => ?_)
        · first | rw [nI_eq (by omega) (by omega)] at h26 | rw [zi_eqN (by omega)] at h26 | rw [zi_Neq (by omega)] at h26 | rw [zi_eq] at h26
          refine go_iload_n (i := 2) (pc := 51) dX11_fitsAct_51 rfl rfl ?_
          refine go_callS ml_X11_134 mt_X11_isDigit (pc := 52) dX11_fitsAct_52 (c_X11_isDigit) (by decide) (by decide) rfl rfl (Nat.le_of_ble_eq_true rfl) (fun r σ' hp => ?_)
          obtain ⟨rfl, hσ⟩ := hp
          rw [hσ]
          clear hσ σ'
          dsimp only [zRet]
          refine go_if_eq 74 (pc := 55) dX11_fitsAct_55 (by decide) (fun h55 => ?_) (fun h55 => ?_)
          · rw [zb_0d, nI_toInt (by omega)] at h55
            refine go_iconst (nI 0) (pc := 74) dX11_fitsAct_74 (by decide) ?_
            refine go_zreturn (pc := 75) dX11_fitsAct_75 rfl rfl ?_
            refine ⟨?_, rfl⟩
            have ef : fAct a i v = false := by
              unfold fAct
              first
                | (rw [if_pos (by omega)]; exact decide_eq_false (by omega))
                | (rw [if_neg (by omega)]; exact decide_eq_false (by omega))
            rw [ef]
            rfl
          · rw [zb_0d, nI_toInt (by omega)] at h55
            refine go_iload_n (i := 0) (pc := 58) dX11_fitsAct_58 rfl rfl ?_
            refine go_bipush (nI 112) (pc := 59) dX11_fitsAct_59 (by decide) ?_
            refine go_icmp_ne 70 (pc := 61) dX11_fitsAct_61 (by decide) (fun h61 => ?_) (fun h61 => ?_)
            · first | rw [nI_eq (by omega) (by omega)] at h61 | rw [zi_eqN (by omega)] at h61 | rw [zi_Neq (by omega)] at h61 | rw [zi_eq] at h61
              refine go_iconst (nI 1) (pc := 70) dX11_fitsAct_70 (by decide) ?_
              refine go_goto 75 (pc := 71) dX11_fitsAct_71 (by decide) ?_
              refine go_zreturn (pc := 75) dX11_fitsAct_75 rfl rfl ?_
              refine ⟨?_, rfl⟩
              have ef : fAct a i v = true := by
                unfold fAct
                first
                  | (rw [if_pos (by omega)]; exact decide_eq_true (by omega))
                  | (rw [if_neg (by omega)]; exact decide_eq_true (by omega))
              rw [ef]
              rfl
            · first | rw [nI_eq (by omega) (by omega)] at h61 | rw [zi_eqN (by omega)] at h61 | rw [zi_Neq (by omega)] at h61 | rw [zi_eq] at h61
              refine go_iload_n (i := 2) (pc := 64) dX11_fitsAct_64 rfl rfl ?_
              refine go_bipush (nI 48) (pc := 65) dX11_fitsAct_65 (by decide) ?_
              refine go_icmp_eq 74 (pc := 67) dX11_fitsAct_67 (by decide) (fun h67 => ?_) (fun h67 => ?_)
              · first | rw [nI_eq (by omega) (by omega)] at h67 | rw [zi_eqN (by omega)] at h67 | rw [zi_Neq (by omega)] at h67 | rw [zi_eq] at h67
                refine go_iconst (nI 0) (pc := 74) dX11_fitsAct_74 (by decide) ?_
                refine go_zreturn (pc := 75) dX11_fitsAct_75 rfl rfl ?_
                refine ⟨?_, rfl⟩
                have ef : fAct a i v = false := by
                  unfold fAct
                  first
                    | (rw [if_pos (by omega)]; exact decide_eq_false (by omega))
                    | (rw [if_neg (by omega)]; exact decide_eq_false (by omega))
                rw [ef]
                rfl
              · first | rw [nI_eq (by omega) (by omega)] at h67 | rw [zi_eqN (by omega)] at h67 | rw [zi_Neq (by omega)] at h67 | rw [zi_eq] at h67
                refine go_iconst (nI 1) (pc := 70) dX11_fitsAct_70 (by decide) ?_
                refine go_goto 75 (pc := 71) dX11_fitsAct_71 (by decide) ?_
                refine go_zreturn (pc := 75) dX11_fitsAct_75 rfl rfl ?_
                refine ⟨?_, rfl⟩
                have ef : fAct a i v = true := by
                  unfold fAct
                  first
                    | (rw [if_pos (by omega)]; exact decide_eq_true (by omega))
                    | (rw [if_neg (by omega)]; exact decide_eq_true (by omega))
                rw [ef]
                rfl
        · first | rw [nI_eq (by omega) (by omega)] at h26 | rw [zi_eqN (by omega)] at h26 | rw [zi_Neq (by omega)] at h26 | rw [zi_eq] at h26
          refine go_iload_n (i := 3) (pc := 29) dX11_fitsAct_29 rfl rfl ?_
          first
            | (refine go_if_eq 51 (pc := 30) dX11_fitsAct_30 (by decide) (fun h30 => absurd h30 (by decide)) (fun h30 => ?_)
               refine go_iload_n (i := 2) (pc := 33) dX11_fitsAct_33 rfl rfl ?_
               refine go_bipush (nI 97) (pc := 34) dX11_fitsAct_34 (by decide) ?_
               refine go_icmp_lt 49 (pc := 36) dX11_fitsAct_36 (by decide) (fun h36 => ?_) (fun h36 => ?_)
               · first | rw [nI_ltI (by omega) (by omega)] at h36 | rw [zi_ltN (by omega)] at h36 | rw [zi_Nlt (by omega)] at h36 | rw [zi_lt] at h36
                 refine go_iconst (nI 0) (pc := 49) dX11_fitsAct_49 (by decide) ?_
                 refine go_zreturn (pc := 50) dX11_fitsAct_50 rfl rfl ?_
                 refine ⟨?_, rfl⟩
                 have ef : fAct a i v = false := by
                   unfold fAct
                   first
                     | (rw [if_pos (by omega)]; exact decide_eq_false (by omega))
                     | (rw [if_neg (by omega)]; exact decide_eq_false (by omega))
                 rw [ef]
                 rfl
               · first | rw [nI_ltI (by omega) (by omega)] at h36 | rw [zi_ltN (by omega)] at h36 | rw [zi_Nlt (by omega)] at h36 | rw [zi_lt] at h36
                 refine go_iload_n (i := 2) (pc := 39) dX11_fitsAct_39 rfl rfl ?_
                 refine go_bipush (nI 108) (pc := 40) dX11_fitsAct_40 (by decide) ?_
                 refine go_icmp_gt 49 (pc := 42) dX11_fitsAct_42 (by decide) (fun h42 => ?_) (fun h42 => ?_)
                 · first | rw [nI_ltI (by omega) (by omega)] at h42 | rw [zi_ltN (by omega)] at h42 | rw [zi_Nlt (by omega)] at h42 | rw [zi_lt] at h42
                   refine go_iconst (nI 0) (pc := 49) dX11_fitsAct_49 (by decide) ?_
                   refine go_zreturn (pc := 50) dX11_fitsAct_50 rfl rfl ?_
                   refine ⟨?_, rfl⟩
                   have ef : fAct a i v = false := by
                     unfold fAct
                     first
                       | (rw [if_pos (by omega)]; exact decide_eq_false (by omega))
                       | (rw [if_neg (by omega)]; exact decide_eq_false (by omega))
                   rw [ef]
                   rfl
                 · first | rw [nI_ltI (by omega) (by omega)] at h42 | rw [zi_ltN (by omega)] at h42 | rw [zi_Nlt (by omega)] at h42 | rw [zi_lt] at h42
                   refine go_iconst (nI 1) (pc := 45) dX11_fitsAct_45 (by decide) ?_
                   refine go_goto 50 (pc := 46) dX11_fitsAct_46 (by decide) ?_
                   refine go_zreturn (pc := 50) dX11_fitsAct_50 rfl rfl ?_
                   refine ⟨?_, rfl⟩
                   have ef : fAct a i v = true := by
                     unfold fAct
                     first
                       | (rw [if_pos (by omega)]; exact decide_eq_true (by omega))
                       | (rw [if_neg (by omega)]; exact decide_eq_true (by omega))
                   rw [ef]
                   rfl)
            | (refine go_if_eq 51 (pc := 30) dX11_fitsAct_30 (by decide) (fun h30 => ?_) (fun h30 => absurd rfl h30)
               refine go_iload_n (i := 2) (pc := 51) dX11_fitsAct_51 rfl rfl ?_
               refine go_callS ml_X11_134 mt_X11_isDigit (pc := 52) dX11_fitsAct_52 (c_X11_isDigit) (by decide) (by decide) rfl rfl (Nat.le_of_ble_eq_true rfl) (fun r σ' hp => ?_)
               obtain ⟨rfl, hσ⟩ := hp
               rw [hσ]
               clear hσ σ'
               dsimp only [zRet]
               refine go_if_eq 74 (pc := 55) dX11_fitsAct_55 (by decide) (fun h55 => ?_) (fun h55 => ?_)
               · rw [zb_0d, nI_toInt (by omega)] at h55
                 refine go_iconst (nI 0) (pc := 74) dX11_fitsAct_74 (by decide) ?_
                 refine go_zreturn (pc := 75) dX11_fitsAct_75 rfl rfl ?_
                 refine ⟨?_, rfl⟩
                 have ef : fAct a i v = false := by
                   unfold fAct
                   first
                     | (rw [if_pos (by omega)]; exact decide_eq_false (by omega))
                     | (rw [if_neg (by omega)]; exact decide_eq_false (by omega))
                 rw [ef]
                 rfl
               · rw [zb_0d, nI_toInt (by omega)] at h55
                 refine go_iload_n (i := 0) (pc := 58) dX11_fitsAct_58 rfl rfl ?_
                 refine go_bipush (nI 112) (pc := 59) dX11_fitsAct_59 (by decide) ?_
                 refine go_icmp_ne 70 (pc := 61) dX11_fitsAct_61 (by decide) (fun h61 => ?_) (fun h61 => ?_)
                 · first | rw [nI_eq (by omega) (by omega)] at h61 | rw [zi_eqN (by omega)] at h61 | rw [zi_Neq (by omega)] at h61 | rw [zi_eq] at h61
                   refine go_iconst (nI 1) (pc := 70) dX11_fitsAct_70 (by decide) ?_
                   refine go_goto 75 (pc := 71) dX11_fitsAct_71 (by decide) ?_
                   refine go_zreturn (pc := 75) dX11_fitsAct_75 rfl rfl ?_
                   refine ⟨?_, rfl⟩
                   have ef : fAct a i v = true := by
                     unfold fAct
                     first
                       | (rw [if_pos (by omega)]; exact decide_eq_true (by omega))
                       | (rw [if_neg (by omega)]; exact decide_eq_true (by omega))
                   rw [ef]
                   rfl
                 · first | rw [nI_eq (by omega) (by omega)] at h61 | rw [zi_eqN (by omega)] at h61 | rw [zi_Neq (by omega)] at h61 | rw [zi_eq] at h61
                   refine go_iload_n (i := 2) (pc := 64) dX11_fitsAct_64 rfl rfl ?_
                   refine go_bipush (nI 48) (pc := 65) dX11_fitsAct_65 (by decide) ?_
                   refine go_icmp_eq 74 (pc := 67) dX11_fitsAct_67 (by decide) (fun h67 => ?_) (fun h67 => ?_)
                   · first | rw [nI_eq (by omega) (by omega)] at h67 | rw [zi_eqN (by omega)] at h67 | rw [zi_Neq (by omega)] at h67 | rw [zi_eq] at h67
                     refine go_iconst (nI 0) (pc := 74) dX11_fitsAct_74 (by decide) ?_
                     refine go_zreturn (pc := 75) dX11_fitsAct_75 rfl rfl ?_
                     refine ⟨?_, rfl⟩
                     have ef : fAct a i v = false := by
                       unfold fAct
                       first
                         | (rw [if_pos (by omega)]; exact decide_eq_false (by omega))
                         | (rw [if_neg (by omega)]; exact decide_eq_false (by omega))
                     rw [ef]
                     rfl
                   · first | rw [nI_eq (by omega) (by omega)] at h67 | rw [zi_eqN (by omega)] at h67 | rw [zi_Neq (by omega)] at h67 | rw [zi_eq] at h67
                     refine go_iconst (nI 1) (pc := 70) dX11_fitsAct_70 (by decide) ?_
                     refine go_goto 75 (pc := 71) dX11_fitsAct_71 (by decide) ?_
                     refine go_zreturn (pc := 75) dX11_fitsAct_75 rfl rfl ?_
                     refine ⟨?_, rfl⟩
                     have ef : fAct a i v = true := by
                       unfold fAct
                       first
                         | (rw [if_pos (by omega)]; exact decide_eq_true (by omega))
                         | (rw [if_neg (by omega)]; exact decide_eq_true (by omega))
                     rw [ef]
                     rfl)
      · first | rw [nI_eq (by omega) (by omega)] at h15 | rw [zi_eqN (by omega)] at h15 | rw [zi_Neq (by omega)] at h15 | rw [zi_eq] at h15
        refine go_iconst (nI 1) (pc := 18) dX11_fitsAct_18 (by decide) ?_
        refine go_goto 23 (pc := 19) dX11_fitsAct_19 (by decide) ?_
        refine go_istore_n (i := 3) (pc := 23) dX11_fitsAct_23 rfl (by decide) ?_
        refine go_iload_n (i := 1) (pc := 24) dX11_fitsAct_24 rfl rfl ?_
        refine go_iconst (nI 1) (pc := 25) dX11_fitsAct_25 (by decide) ?_
        refine go_icmp_ne 51 (pc := 26) dX11_fitsAct_26 (by decide) (fun h26 => ?_) (fun h26 => ?_)
        · first | rw [nI_eq (by omega) (by omega)] at h26 | rw [zi_eqN (by omega)] at h26 | rw [zi_Neq (by omega)] at h26 | rw [zi_eq] at h26
          refine go_iload_n (i := 2) (pc := 51) dX11_fitsAct_51 rfl rfl ?_
          refine go_callS ml_X11_134 mt_X11_isDigit (pc := 52) dX11_fitsAct_52 (c_X11_isDigit) (by decide) (by decide) rfl rfl (Nat.le_of_ble_eq_true rfl) (fun r σ' hp => ?_)
          obtain ⟨rfl, hσ⟩ := hp
          rw [hσ]
          clear hσ σ'
          dsimp only [zRet]
          refine go_if_eq 74 (pc := 55) dX11_fitsAct_55 (by decide) (fun h55 => ?_) (fun h55 => ?_)
          · rw [zb_0d, nI_toInt (by omega)] at h55
            refine go_iconst (nI 0) (pc := 74) dX11_fitsAct_74 (by decide) ?_
            refine go_zreturn (pc := 75) dX11_fitsAct_75 rfl rfl ?_
            refine ⟨?_, rfl⟩
            have ef : fAct a i v = false := by
              unfold fAct
              first
                | (rw [if_pos (by omega)]; exact decide_eq_false (by omega))
                | (rw [if_neg (by omega)]; exact decide_eq_false (by omega))
            rw [ef]
            rfl
          · rw [zb_0d, nI_toInt (by omega)] at h55
            refine go_iload_n (i := 0) (pc := 58) dX11_fitsAct_58 rfl rfl ?_
            refine go_bipush (nI 112) (pc := 59) dX11_fitsAct_59 (by decide) ?_
            refine go_icmp_ne 70 (pc := 61) dX11_fitsAct_61 (by decide) (fun h61 => ?_) (fun h61 => ?_)
            · first | rw [nI_eq (by omega) (by omega)] at h61 | rw [zi_eqN (by omega)] at h61 | rw [zi_Neq (by omega)] at h61 | rw [zi_eq] at h61
              refine go_iconst (nI 1) (pc := 70) dX11_fitsAct_70 (by decide) ?_
              refine go_goto 75 (pc := 71) dX11_fitsAct_71 (by decide) ?_
              refine go_zreturn (pc := 75) dX11_fitsAct_75 rfl rfl ?_
              refine ⟨?_, rfl⟩
              have ef : fAct a i v = true := by
                unfold fAct
                first
                  | (rw [if_pos (by omega)]; exact decide_eq_true (by omega))
                  | (rw [if_neg (by omega)]; exact decide_eq_true (by omega))
              rw [ef]
              rfl
            · first | rw [nI_eq (by omega) (by omega)] at h61 | rw [zi_eqN (by omega)] at h61 | rw [zi_Neq (by omega)] at h61 | rw [zi_eq] at h61
              refine go_iload_n (i := 2) (pc := 64) dX11_fitsAct_64 rfl rfl ?_
              refine go_bipush (nI 48) (pc := 65) dX11_fitsAct_65 (by decide) ?_
              refine go_icmp_eq 74 (pc := 67) dX11_fitsAct_67 (by decide) (fun h67 => ?_) (fun h67 => ?_)
              · first | rw [nI_eq (by omega) (by omega)] at h67 | rw [zi_eqN (by omega)] at h67 | rw [zi_Neq (by omega)] at h67 | rw [zi_eq] at h67
                refine go_iconst (nI 0) (pc := 74) dX11_fitsAct_74 (by decide) ?_
                refine go_zreturn (pc := 75) dX11_fitsAct_75 rfl rfl ?_
                refine ⟨?_, rfl⟩
                have ef : fAct a i v = false := by
                  unfold fAct
                  first
                    | (rw [if_pos (by omega)]; exact decide_eq_false (by omega))
                    | (rw [if_neg (by omega)]; exact decide_eq_false (by omega))
                rw [ef]
                rfl
              · first | rw [nI_eq (by omega) (by omega)] at h67 | rw [zi_eqN (by omega)] at h67 | rw [zi_Neq (by omega)] at h67 | rw [zi_eq] at h67
                refine go_iconst (nI 1) (pc := 70) dX11_fitsAct_70 (by decide) ?_
                refine go_goto 75 (pc := 71) dX11_fitsAct_71 (by decide) ?_
                refine go_zreturn (pc := 75) dX11_fitsAct_75 rfl rfl ?_
                refine ⟨?_, rfl⟩
                have ef : fAct a i v = true := by
                  unfold fAct
                  first
                    | (rw [if_pos (by omega)]; exact decide_eq_true (by omega))
                    | (rw [if_neg (by omega)]; exact decide_eq_true (by omega))
                rw [ef]
                rfl
        · first | rw [nI_eq (by omega) (by omega)] at h26 | rw [zi_eqN (by omega)] at h26 | rw [zi_Neq (by omega)] at h26 | rw [zi_eq] at h26
          refine go_iload_n (i := 3) (pc := 29) dX11_fitsAct_29 rfl rfl ?_
          first
            | (refine go_if_eq 51 (pc := 30) dX11_fitsAct_30 (by decide) (fun h30 => absurd h30 (by decide)) (fun h30 => ?_)
               refine go_iload_n (i := 2) (pc := 33) dX11_fitsAct_33 rfl rfl ?_
               refine go_bipush (nI 97) (pc := 34) dX11_fitsAct_34 (by decide) ?_
               refine go_icmp_lt 49 (pc := 36) dX11_fitsAct_36 (by decide) (fun h36 => ?_) (fun h36 => ?_)
               · first | rw [nI_ltI (by omega) (by omega)] at h36 | rw [zi_ltN (by omega)] at h36 | rw [zi_Nlt (by omega)] at h36 | rw [zi_lt] at h36
                 refine go_iconst (nI 0) (pc := 49) dX11_fitsAct_49 (by decide) ?_
                 refine go_zreturn (pc := 50) dX11_fitsAct_50 rfl rfl ?_
                 refine ⟨?_, rfl⟩
                 have ef : fAct a i v = false := by
                   unfold fAct
                   first
                     | (rw [if_pos (by omega)]; exact decide_eq_false (by omega))
                     | (rw [if_neg (by omega)]; exact decide_eq_false (by omega))
                 rw [ef]
                 rfl
               · first | rw [nI_ltI (by omega) (by omega)] at h36 | rw [zi_ltN (by omega)] at h36 | rw [zi_Nlt (by omega)] at h36 | rw [zi_lt] at h36
                 refine go_iload_n (i := 2) (pc := 39) dX11_fitsAct_39 rfl rfl ?_
                 refine go_bipush (nI 108) (pc := 40) dX11_fitsAct_40 (by decide) ?_
                 refine go_icmp_gt 49 (pc := 42) dX11_fitsAct_42 (by decide) (fun h42 => ?_) (fun h42 => ?_)
                 · first | rw [nI_ltI (by omega) (by omega)] at h42 | rw [zi_ltN (by omega)] at h42 | rw [zi_Nlt (by omega)] at h42 | rw [zi_lt] at h42
                   refine go_iconst (nI 0) (pc := 49) dX11_fitsAct_49 (by decide) ?_
                   refine go_zreturn (pc := 50) dX11_fitsAct_50 rfl rfl ?_
                   refine ⟨?_, rfl⟩
                   have ef : fAct a i v = false := by
                     unfold fAct
                     first
                       | (rw [if_pos (by omega)]; exact decide_eq_false (by omega))
                       | (rw [if_neg (by omega)]; exact decide_eq_false (by omega))
                   rw [ef]
                   rfl
                 · first | rw [nI_ltI (by omega) (by omega)] at h42 | rw [zi_ltN (by omega)] at h42 | rw [zi_Nlt (by omega)] at h42 | rw [zi_lt] at h42
                   refine go_iconst (nI 1) (pc := 45) dX11_fitsAct_45 (by decide) ?_
                   refine go_goto 50 (pc := 46) dX11_fitsAct_46 (by decide) ?_
                   refine go_zreturn (pc := 50) dX11_fitsAct_50 rfl rfl ?_
                   refine ⟨?_, rfl⟩
                   have ef : fAct a i v = true := by
                     unfold fAct
                     first
                       | (rw [if_pos (by omega)]; exact decide_eq_true (by omega))
                       | (rw [if_neg (by omega)]; exact decide_eq_true (by omega))
                   rw [ef]
                   rfl)
            | (refine go_if_eq 51 (pc := 30) dX11_fitsAct_30 (by decide) (fun h30 => ?_) (fun h30 => absurd rfl h30)
               refine go_iload_n (i := 2) (pc := 51) dX11_fitsAct_51 rfl rfl ?_
               refine go_callS ml_X11_134 mt_X11_isDigit (pc := 52) dX11_fitsAct_52 (c_X11_isDigit) (by decide) (by decide) rfl rfl (Nat.le_of_ble_eq_true rfl) (fun r σ' hp => ?_)
               obtain ⟨rfl, hσ⟩ := hp
               rw [hσ]
               clear hσ σ'
               dsimp only [zRet]
               refine go_if_eq 74 (pc := 55) dX11_fitsAct_55 (by decide) (fun h55 => ?_) (fun h55 => ?_)
               · rw [zb_0d, nI_toInt (by omega)] at h55
                 refine go_iconst (nI 0) (pc := 74) dX11_fitsAct_74 (by decide) ?_
                 refine go_zreturn (pc := 75) dX11_fitsAct_75 rfl rfl ?_
                 refine ⟨?_, rfl⟩
                 have ef : fAct a i v = false := by
                   unfold fAct
                   first
                     | (rw [if_pos (by omega)]; exact decide_eq_false (by omega))
                     | (rw [if_neg (by omega)]; exact decide_eq_false (by omega))
                 rw [ef]
                 rfl
               · rw [zb_0d, nI_toInt (by omega)] at h55
                 refine go_iload_n (i := 0) (pc := 58) dX11_fitsAct_58 rfl rfl ?_
                 refine go_bipush (nI 112) (pc := 59) dX11_fitsAct_59 (by decide) ?_
                 refine go_icmp_ne 70 (pc := 61) dX11_fitsAct_61 (by decide) (fun h61 => ?_) (fun h61 => ?_)
                 · first | rw [nI_eq (by omega) (by omega)] at h61 | rw [zi_eqN (by omega)] at h61 | rw [zi_Neq (by omega)] at h61 | rw [zi_eq] at h61
                   refine go_iconst (nI 1) (pc := 70) dX11_fitsAct_70 (by decide) ?_
                   refine go_goto 75 (pc := 71) dX11_fitsAct_71 (by decide) ?_
                   refine go_zreturn (pc := 75) dX11_fitsAct_75 rfl rfl ?_
                   refine ⟨?_, rfl⟩
                   have ef : fAct a i v = true := by
                     unfold fAct
                     first
                       | (rw [if_pos (by omega)]; exact decide_eq_true (by omega))
                       | (rw [if_neg (by omega)]; exact decide_eq_true (by omega))
                   rw [ef]
                   rfl
                 · first | rw [nI_eq (by omega) (by omega)] at h61 | rw [zi_eqN (by omega)] at h61 | rw [zi_Neq (by omega)] at h61 | rw [zi_eq] at h61
                   refine go_iload_n (i := 2) (pc := 64) dX11_fitsAct_64 rfl rfl ?_
                   refine go_bipush (nI 48) (pc := 65) dX11_fitsAct_65 (by decide) ?_
                   refine go_icmp_eq 74 (pc := 67) dX11_fitsAct_67 (by decide) (fun h67 => ?_) (fun h67 => ?_)
                   · first | rw [nI_eq (by omega) (by omega)] at h67 | rw [zi_eqN (by omega)] at h67 | rw [zi_Neq (by omega)] at h67 | rw [zi_eq] at h67
                     refine go_iconst (nI 0) (pc := 74) dX11_fitsAct_74 (by decide) ?_
                     refine go_zreturn (pc := 75) dX11_fitsAct_75 rfl rfl ?_
                     refine ⟨?_, rfl⟩
                     have ef : fAct a i v = false := by
                       unfold fAct
                       first
                         | (rw [if_pos (by omega)]; exact decide_eq_false (by omega))
                         | (rw [if_neg (by omega)]; exact decide_eq_false (by omega))
                     rw [ef]
                     rfl
                   · first | rw [nI_eq (by omega) (by omega)] at h67 | rw [zi_eqN (by omega)] at h67 | rw [zi_Neq (by omega)] at h67 | rw [zi_eq] at h67
                     refine go_iconst (nI 1) (pc := 70) dX11_fitsAct_70 (by decide) ?_
                     refine go_goto 75 (pc := 71) dX11_fitsAct_71 (by decide) ?_
                     refine go_zreturn (pc := 75) dX11_fitsAct_75 rfl rfl ?_
                     refine ⟨?_, rfl⟩
                     have ef : fAct a i v = true := by
                       unfold fAct
                       first
                         | (rw [if_pos (by omega)]; exact decide_eq_true (by omega))
                         | (rw [if_neg (by omega)]; exact decide_eq_true (by omega))
                     rw [ef]
                     rfl)

set_option maxRecDepth 4000 in
theorem c_X11_logFault {E : zE} {σ : zT} {L : Nat} {f : Nat → Nat} (hT : TextIs σ L f) : CalM E 2 yX11_logFault cX11_logFault 7 (some .int) [.ref (zA E 0 0)] σ (fun r σ' => r = some (.int (gM (logF L f))) ∧ σ' = σ) := by
  refine cal_of_go (own := RX11) rfl (by decide +kernel) (Nat.le_of_ble_eq_true rfl) ?_
  have hL := hT.2.1
  have loop : ∀ t p : Nat, t ≤ 60 → 2 * t ≤ p → p ≤ (min L 60) → logQ L f = logR f (min L 60) (61 - t) p → GoM E 2 RX11 cX11_logFault 7 (some .int) (fun r σ' => r = some (.int (gM (logF L f))) ∧ σ' = σ) σ 17 [(0, .ref (zA E 0 0)), (1, .int (nI (min L 60))), (2, .int (nI p)), (3, .int (nI t))] [] := by
    intro t
    induction hj : 61 - t using Nat.strongRecOn generalizing t with
    | ind z ih =>
      intro p ht h2 hp hm
      have inner : ∀ i : Nat, p < (min L 60) → 1 ≤ i → i ≤ aLen (f p) → (∀ k, 1 ≤ k → k < i → p + k < (min L 60) ∧ fAct (f p) k (f (p + k)) = true) → f p < 256 → (aLen (f p) = 2 ∨ aLen (f p) = 3) → GoM E 2 RX11 cX11_logFault 7 (some .int) (fun r σ' => r = some (.int (gM (logF L f))) ∧ σ' = σ) σ 55 [(0, .ref (zA E 0 0)), (1, .int (nI (min L 60))), (2, .int (nI p)), (3, .int (nI t)), (4, .int (nI (f p))), (5, .int (nI (aLen (f p)))), (6, .int (nI i))] [] := by
        intro i hpl
        induction hj2 : aLen (f p) - i using Nat.strongRecOn generalizing i with
        | ind z2 ih2 =>
          intro h1 hi hall hv0 hl23
          have hm := hm
          rw [show z = z - 1 + 1 by omega, logR, if_neg (by omega)] at hm
          have hall1 := hall 1 (by omega)
          have hall2 := hall 2 (by omega)
          refine go_iload (pc := 55) dX11_logFault_55 rfl ?_
          refine go_iload (pc := 57) dX11_logFault_57 rfl ?_
          refine go_icmp_ge 104 (pc := 59) dX11_logFault_59 (by decide) (fun h59 => ?_) (fun h59 => ?_)
          · first | rw [nI_leI (by omega) (by omega)] at h59 | rw [zi_leN (by omega)] at h59 | rw [zi_Nle (by omega)] at h59 | rw [zi_le] at h59
            have ei : i = aLen (f p) := by omega
            have ea : aOne f (min L 60) p = (true, p + aLen (f p)) := by
              have e1 := (hall 1 (by omega) (by omega))
              unfold aOne
              rw [if_neg (by omega), if_neg (by omega), if_neg (by rw [e1.2]; decide)]
              rcases hl23 with e | e
              · rw [if_pos e, e]
              · have e2 := (hall 2 (by omega) (by omega))
                rw [if_neg (by omega), if_neg (by omega), if_neg (by rw [e2.2]; decide), e]
            rw [if_neg (by rw [ea]; exact Bool.noConfusion), ea] at hm
            refine go_iload_n (i := 2) (pc := 104) dX11_logFault_104 rfl rfl ?_
            refine go_iload (pc := 105) dX11_logFault_105 rfl ?_
            first | with_reducible refine go_iaddN (pc := 107) dX11_logFault_107 ?_ | refine go_iadd (pc := 107) dX11_logFault_107 ?_
            refine go_istore_n (i := 2) (pc := 108) dX11_logFault_108 rfl (by decide) ?_
            refine go_iincN (pc := 109) dX11_logFault_109 rfl (by decide) ?_
            refine go_goto 17 (pc := 112) dX11_logFault_112 (by decide) ?_
            refine go_drop [0, 1, 2, 3] rfl ?_
            exact ih (z - 1) (by omega) (t + 1) (by omega) _ (by omega) (by omega) (by omega) hm
          · first | rw [nI_leI (by omega) (by omega)] at h59 | rw [zi_leN (by omega)] at h59 | rw [zi_Nle (by omega)] at h59 | rw [zi_le] at h59
            refine go_iload_n (i := 2) (pc := 62) dX11_logFault_62 rfl rfl ?_
            refine go_iload (pc := 63) dX11_logFault_63 rfl ?_
            first | with_reducible refine go_iaddN (pc := 65) dX11_logFault_65 ?_ | refine go_iadd (pc := 65) dX11_logFault_65 ?_
            refine go_iload_n (i := 1) (pc := 66) dX11_logFault_66 rfl rfl ?_
            refine go_icmp_lt 72 (pc := 67) dX11_logFault_67 (by decide) (fun h67 => ?_) (fun h67 => ?_)
            · first | rw [nI_ltI (by omega) (by omega)] at h67 | rw [zi_ltN (by omega)] at h67 | rw [zi_Nlt (by omega)] at h67 | rw [zi_lt] at h67
              refine go_iload (pc := 72) dX11_logFault_72 rfl ?_
              refine go_iload (pc := 74) dX11_logFault_74 rfl ?_
              refine go_aload_n (i := 0) (pc := 76) dX11_logFault_76 rfl rfl ?_
              refine go_getr2 fl_X11_10 (pc := 77) dX11_logFault_77 (by first | rfl | (apply zL_ci <;> assumption) | (apply zR_ci <;> assumption)) (by first | rfl | (apply zL_in <;> first | assumption | decide) | (apply zR_in <;> first | assumption | decide)) (by first | rfl | (apply zL_fr0 <;> assumption) | (apply zL_fr1 <;> assumption) | (apply zR_fr0 <;> assumption) | (apply zR_fr1 <;> assumption) | (apply zR_fr2 <;> assumption) | (apply zR_fr3 <;> assumption)) ?_
              refine go_iload_n (i := 2) (pc := 80) dX11_logFault_80 rfl rfl ?_
              refine go_iload (pc := 81) dX11_logFault_81 rfl ?_
              first | with_reducible refine go_iaddN (pc := 83) dX11_logFault_83 ?_ | refine go_iadd (pc := 83) dX11_logFault_83 ?_
              refine go_callV ml_X11_130 mt_X8_at (pc := 84) dX11_logFault_84 (c_X8_at hT (by omega)) (by first | rfl | (apply zL_cq <;> assumption) | (apply zR_cq <;> assumption)) rfl (by first | rfl | (apply zL_in <;> first | assumption | decide) | (apply zR_in <;> first | assumption | decide)) (by decide) (by decide) rfl rfl (Nat.le_of_ble_eq_true rfl) (fun r σ' hp => ?_)
              obtain ⟨rfl, hσ⟩ := hp
              rw [hσ]
              clear hσ σ'
              dsimp only [zRet]
              rw [tAt_in (by omega)]
              have hv := (hT.2.2 (p + i) (by omega)).2
              refine go_callS ml_X11_281 mt_X11_fitsAct (pc := 87) dX11_logFault_87 (c_X11_fitsAct hv0 (by omega) hv) (by decide) (by decide) rfl rfl (Nat.le_of_ble_eq_true rfl) (fun r σ' hp => ?_)
              obtain ⟨rfl, hσ⟩ := hp
              rw [hσ]
              clear hσ σ'
              dsimp only [zRet]
              refine go_if_ne 98 (pc := 90) dX11_logFault_90 (by decide) (fun h90 => ?_) (fun h90 => ?_)
              · rw [zb_0] at h90
                have hfa : fAct (f p) i (f (p + i)) = true := by simpa using h90
                refine go_iincN (pc := 98) dX11_logFault_98 rfl (by decide) ?_
                refine go_goto 55 (pc := 101) dX11_logFault_101 (by decide) ?_
                refine ih2 (aLen (f p) - (i + 1)) (by omega) (i + 1) rfl (by omega) (by omega) (fun k h1 h2 => ?_) hv0 hl23
                by_cases e : k = i
                · rw [e]; exact ⟨by omega, hfa⟩
                · exact hall k h1 (by omega)
              · rw [zb_0] at h90
                have hi12 : i = 1 ∨ i = 2 := by omega
                refine go_iload_n (i := 2) (pc := 93) dX11_logFault_93 rfl rfl ?_
                refine go_iload (pc := 94) dX11_logFault_94 rfl ?_
                first | with_reducible refine go_iaddN (pc := 96) dX11_logFault_96 ?_ | refine go_iadd (pc := 96) dX11_logFault_96 ?_
                refine go_ireturn (pc := 97) dX11_logFault_97 rfl ?_
                have ea : aOne f (min L 60) p = (false, p + i) := by
                  unfold aOne
                  rw [if_neg (by omega), if_neg (by omega)]
                  rcases hi12 with e | e
                  · rw [e] at h90; rw [if_pos h90, e]
                  · have e1 := (hall 1 (by omega) (by omega))
                    rw [e] at h90
                    rw [if_neg (by rw [e1.2]; decide), if_neg (by omega), if_neg (by omega), if_pos h90, e]
                rw [if_pos (by rw [ea]), ea] at hm
                refine ⟨?_, rfl⟩
                unfold logF
                rw [hm]
                rfl
            · first | rw [nI_ltI (by omega) (by omega)] at h67 | rw [zi_ltN (by omega)] at h67 | rw [zi_Nlt (by omega)] at h67 | rw [zi_lt] at h67
              have hi12 : i = 1 ∨ i = 2 := by omega
              refine go_iload_n (i := 1) (pc := 70) dX11_logFault_70 rfl rfl ?_
              refine go_ireturn (pc := 71) dX11_logFault_71 rfl ?_
              have ea : aOne f (min L 60) p = (false, min L 60) := by
                unfold aOne
                rw [if_neg (by omega)]
                rcases hi12 with e | e
                · rw [if_pos (by omega)]
                · have e1 := (hall 1 (by omega) (by omega))
                  rw [if_neg (by omega), if_neg (by rw [e1.2]; decide), if_neg (by omega), if_pos (by omega)]
              rw [if_pos (by rw [ea]), ea] at hm
              refine ⟨?_, rfl⟩
              unfold logF
              rw [hm]
              rfl
      refine go_iload_n (i := 3) (pc := 17) dX11_logFault_17 rfl rfl ?_
      refine go_bipush (nI 60) (pc := 18) dX11_logFault_18 (by decide) ?_
      refine go_icmp_ge 115 (pc := 20) dX11_logFault_20 (by decide) (fun h20 => ?_) (fun h20 => ?_)
      · first | rw [nI_leI (by omega) (by omega)] at h20 | rw [zi_leN (by omega)] at h20 | rw [zi_Nle (by omega)] at h20 | rw [zi_le] at h20
        have hm2 : logQ L f = none := by rw [hm, show z = z - 1 + 1 by omega, logR, if_pos (by omega)]
        refine go_aload_n (i := 0) (pc := 115) dX11_logFault_115 rfl rfl ?_
        refine go_getr2 fl_X11_10 (pc := 116) dX11_logFault_116 (by first | rfl | (apply zL_ci <;> assumption) | (apply zR_ci <;> assumption)) (by first | rfl | (apply zL_in <;> first | assumption | decide) | (apply zR_in <;> first | assumption | decide)) (by first | rfl | (apply zL_fr0 <;> assumption) | (apply zL_fr1 <;> assumption) | (apply zR_fr0 <;> assumption) | (apply zR_fr1 <;> assumption) | (apply zR_fr2 <;> assumption) | (apply zR_fr3 <;> assumption)) ?_
        refine go_callV ml_X11_108 mt_X8_size (pc := 119) dX11_logFault_119 (c_X8_size hT) (by first | rfl | (apply zL_cq <;> assumption) | (apply zR_cq <;> assumption)) rfl (by first | rfl | (apply zL_in <;> first | assumption | decide) | (apply zR_in <;> first | assumption | decide)) (by decide) (by decide) rfl rfl (Nat.le_of_ble_eq_true rfl) (fun r σ' hp => ?_)
        obtain ⟨rfl, hσ⟩ := hp
        rw [hσ]
        clear hσ σ'
        dsimp only [zRet]
        refine go_bipush (nI 60) (pc := 122) dX11_logFault_122 (by decide) ?_
        refine go_icmp_le 132 (pc := 124) dX11_logFault_124 (by decide) (fun h124 => ?_) (fun h124 => ?_)
        · first | rw [nI_leI (by omega) (by omega)] at h124 | rw [zi_leN (by omega)] at h124 | rw [zi_Nle (by omega)] at h124 | rw [zi_le] at h124
          refine go_iconst (-1) (pc := 132) dX11_logFault_132 (by decide) ?_
          refine go_ireturn (pc := 133) dX11_logFault_133 rfl ?_
          refine ⟨?_, rfl⟩
          unfold logF
          rw [hm2]
          dsimp only
          rw [if_neg (by omega)]
          rfl
        · first | rw [nI_leI (by omega) (by omega)] at h124 | rw [zi_leN (by omega)] at h124 | rw [zi_Nle (by omega)] at h124 | rw [zi_le] at h124
          refine go_bipush (nI 60) (pc := 127) dX11_logFault_127 (by decide) ?_
          refine go_goto 133 (pc := 129) dX11_logFault_129 (by decide) ?_
          refine go_ireturn (pc := 133) dX11_logFault_133 rfl ?_
          refine ⟨?_, rfl⟩
          unfold logF
          rw [hm2]
          dsimp only
          rw [if_pos (by omega)]
          rfl
      · first | rw [nI_leI (by omega) (by omega)] at h20 | rw [zi_leN (by omega)] at h20 | rw [zi_Nle (by omega)] at h20 | rw [zi_le] at h20
        refine go_iload_n (i := 2) (pc := 23) dX11_logFault_23 rfl rfl ?_
        refine go_iload_n (i := 1) (pc := 24) dX11_logFault_24 rfl rfl ?_
        refine go_icmp_ge 115 (pc := 25) dX11_logFault_25 (by decide) (fun h25 => ?_) (fun h25 => ?_)
        · first | rw [nI_leI (by omega) (by omega)] at h25 | rw [zi_leN (by omega)] at h25 | rw [zi_Nle (by omega)] at h25 | rw [zi_le] at h25
          have hm2 : logQ L f = none := by rw [hm, show z = z - 1 + 1 by omega, logR, if_pos (by omega)]
          refine go_aload_n (i := 0) (pc := 115) dX11_logFault_115 rfl rfl ?_
          refine go_getr2 fl_X11_10 (pc := 116) dX11_logFault_116 (by first | rfl | (apply zL_ci <;> assumption) | (apply zR_ci <;> assumption)) (by first | rfl | (apply zL_in <;> first | assumption | decide) | (apply zR_in <;> first | assumption | decide)) (by first | rfl | (apply zL_fr0 <;> assumption) | (apply zL_fr1 <;> assumption) | (apply zR_fr0 <;> assumption) | (apply zR_fr1 <;> assumption) | (apply zR_fr2 <;> assumption) | (apply zR_fr3 <;> assumption)) ?_
          refine go_callV ml_X11_108 mt_X8_size (pc := 119) dX11_logFault_119 (c_X8_size hT) (by first | rfl | (apply zL_cq <;> assumption) | (apply zR_cq <;> assumption)) rfl (by first | rfl | (apply zL_in <;> first | assumption | decide) | (apply zR_in <;> first | assumption | decide)) (by decide) (by decide) rfl rfl (Nat.le_of_ble_eq_true rfl) (fun r σ' hp => ?_)
          obtain ⟨rfl, hσ⟩ := hp
          rw [hσ]
          clear hσ σ'
          dsimp only [zRet]
          refine go_bipush (nI 60) (pc := 122) dX11_logFault_122 (by decide) ?_
          refine go_icmp_le 132 (pc := 124) dX11_logFault_124 (by decide) (fun h124 => ?_) (fun h124 => ?_)
          · first | rw [nI_leI (by omega) (by omega)] at h124 | rw [zi_leN (by omega)] at h124 | rw [zi_Nle (by omega)] at h124 | rw [zi_le] at h124
            refine go_iconst (-1) (pc := 132) dX11_logFault_132 (by decide) ?_
            refine go_ireturn (pc := 133) dX11_logFault_133 rfl ?_
            refine ⟨?_, rfl⟩
            unfold logF
            rw [hm2]
            dsimp only
            rw [if_neg (by omega)]
            rfl
          · first | rw [nI_leI (by omega) (by omega)] at h124 | rw [zi_leN (by omega)] at h124 | rw [zi_Nle (by omega)] at h124 | rw [zi_le] at h124
            refine go_bipush (nI 60) (pc := 127) dX11_logFault_127 (by decide) ?_
            refine go_goto 133 (pc := 129) dX11_logFault_129 (by decide) ?_
            refine go_ireturn (pc := 133) dX11_logFault_133 rfl ?_
            refine ⟨?_, rfl⟩
            unfold logF
            rw [hm2]
            dsimp only
            rw [if_pos (by omega)]
            rfl
        · first | rw [nI_leI (by omega) (by omega)] at h25 | rw [zi_leN (by omega)] at h25 | rw [zi_Nle (by omega)] at h25 | rw [zi_le] at h25
          refine go_aload_n (i := 0) (pc := 28) dX11_logFault_28 rfl rfl ?_
          refine go_getr2 fl_X11_10 (pc := 29) dX11_logFault_29 (by first | rfl | (apply zL_ci <;> assumption) | (apply zR_ci <;> assumption)) (by first | rfl | (apply zL_in <;> first | assumption | decide) | (apply zR_in <;> first | assumption | decide)) (by first | rfl | (apply zL_fr0 <;> assumption) | (apply zL_fr1 <;> assumption) | (apply zR_fr0 <;> assumption) | (apply zR_fr1 <;> assumption) | (apply zR_fr2 <;> assumption) | (apply zR_fr3 <;> assumption)) ?_
          refine go_iload_n (i := 2) (pc := 32) dX11_logFault_32 rfl rfl ?_
          refine go_callV ml_X11_130 mt_X8_at (pc := 33) dX11_logFault_33 (c_X8_at hT (by omega)) (by first | rfl | (apply zL_cq <;> assumption) | (apply zR_cq <;> assumption)) rfl (by first | rfl | (apply zL_in <;> first | assumption | decide) | (apply zR_in <;> first | assumption | decide)) (by decide) (by decide) rfl rfl (Nat.le_of_ble_eq_true rfl) (fun r σ' hp => ?_)
          obtain ⟨rfl, hσ⟩ := hp
          rw [hσ]
          clear hσ σ'
          dsimp only [zRet]
          rw [tAt_in (by omega)]
          have hv := (hT.2.2 (p) (by omega)).2
          refine go_istore (pc := 36) dX11_logFault_36 (by decide) ?_
          refine go_iload (pc := 38) dX11_logFault_38 rfl ?_
          refine go_callS ml_X11_233 mt_X11_actLength (pc := 40) dX11_logFault_40 (c_X11_actLength hv) (by decide) (by decide) rfl rfl (Nat.le_of_ble_eq_true rfl) (fun r σ' hp => ?_)
          obtain ⟨rfl, hσ⟩ := hp
          rw [hσ]
          clear hσ σ'
          dsimp only [zRet]
          have hl23 : aLen (f p) = 0 ∨ aLen (f p) = 2 ∨ aLen (f p) = 3 := by unfold aLen; split; omega; split <;> omega
          refine go_istore (pc := 43) dX11_logFault_43 (by decide) ?_
          refine go_iload (pc := 45) dX11_logFault_45 rfl ?_
          refine go_if_ne 52 (pc := 47) dX11_logFault_47 (by decide) (fun h47 => ?_) (fun h47 => ?_)
          · first | rw [zb_0d] at h47 | rw [zn_eq0 (by omega)] at h47 | rw [zi_eq0] at h47
            refine go_iconst (nI 1) (pc := 52) dX11_logFault_52 (by decide) ?_
            refine go_istore (pc := 53) dX11_logFault_53 (by decide) ?_
            exact inner 1 (by omega) (by omega) (by omega) (fun k h1 h2 => by omega) hv (by omega)
          · first | rw [zb_0d] at h47 | rw [zn_eq0 (by omega)] at h47 | rw [zi_eq0] at h47
            refine go_iload_n (i := 2) (pc := 50) dX11_logFault_50 rfl rfl ?_
            refine go_ireturn (pc := 51) dX11_logFault_51 rfl ?_
            have ea : aOne f (min L 60) p = (false, p) := by unfold aOne; rw [if_pos (by omega)]
            rw [show z = z - 1 + 1 by omega, logR, if_neg (by omega), if_pos (by rw [ea]), ea] at hm
            refine ⟨?_, rfl⟩
            unfold logF
            rw [hm]
            rfl
  refine go_aload_n (i := 0) (pc := 0) dX11_logFault_0 rfl rfl ?_
  refine go_getr2 fl_X11_10 (pc := 1) dX11_logFault_1 (by first | rfl | (apply zL_ci <;> assumption) | (apply zR_ci <;> assumption)) (by first | rfl | (apply zL_in <;> first | assumption | decide) | (apply zR_in <;> first | assumption | decide)) (by first | rfl | (apply zL_fr0 <;> assumption) | (apply zL_fr1 <;> assumption) | (apply zR_fr0 <;> assumption) | (apply zR_fr1 <;> assumption) | (apply zR_fr2 <;> assumption) | (apply zR_fr3 <;> assumption)) ?_
  refine go_callV ml_X11_108 mt_X8_size (pc := 4) dX11_logFault_4 (c_X8_size hT) (by first | rfl | (apply zL_cq <;> assumption) | (apply zR_cq <;> assumption)) rfl (by first | rfl | (apply zL_in <;> first | assumption | decide) | (apply zR_in <;> first | assumption | decide)) (by decide) (by decide) rfl rfl (Nat.le_of_ble_eq_true rfl) (fun r σ' hp => ?_)
  obtain ⟨rfl, hσ⟩ := hp
  rw [hσ]
  clear hσ σ'
  dsimp only [zRet]
  refine go_bipush (nI 60) (pc := 7) dX11_logFault_7 (by decide) ?_
  refine go_callS ml_X11_276 mt_J9_min_7cf53 (pc := 9) dX11_logFault_9 (c_J9_minN (by omega) (by decide)) (by decide) (by decide) rfl rfl (Nat.le_of_ble_eq_true rfl) (fun r σ' hp => ?_)
  obtain ⟨rfl, hσ⟩ := hp
  rw [hσ]
  clear hσ σ'
  dsimp only [zRet]
  refine go_istore_n (i := 1) (pc := 12) dX11_logFault_12 rfl (by decide) ?_
  refine go_iconst (nI 0) (pc := 13) dX11_logFault_13 (by decide) ?_
  refine go_istore_n (i := 2) (pc := 14) dX11_logFault_14 rfl (by decide) ?_
  refine go_iconst (nI 0) (pc := 15) dX11_logFault_15 (by decide) ?_
  refine go_istore_n (i := 3) (pc := 16) dX11_logFault_16 rfl (by decide) ?_
  exact loop 0 0 (by omega) (by omega) (by omega) rfl

