/-! texts read: the line, the weather, the carriers -/
def mF (q : Nat) : Int32 := -1 - nI q
/-- how far all is well -/
def rlU (ok : Nat → Bool) : Nat → Nat
  | 0 => 0
  | n + 1 => if rlU ok n = n ∧ ok n = true then n + 1 else rlU ok n
theorem rlU_le (ok : Nat → Bool) (n : Nat) : rlU ok n ≤ n := by
  induction n with
  | zero => exact Nat.le_refl _
  | succ n ih => unfold rlU; split <;> omega
theorem rlU_s {ok : Nat → Bool} {n : Nat} (h : rlU ok n = n) (h2 : ok n = true) : rlU ok (n + 1) = n + 1 := by rw [rlU, if_pos ⟨h, h2⟩]
theorem rlU_bad {ok : Nat → Bool} {n : Nat} (h : rlU ok n = n) (h2 : ok n = false) : ∀ k, rlU ok (n + 1 + k) = n := by
  intro k
  induction k with
  | zero => rw [Nat.add_zero, rlU, if_neg (by rw [h2]; simp)]; exact h
  | succ k ih => rw [← Nat.add_assoc, rlU, if_neg (by rw [ih]; omega)]; exact ih
theorem rlU_badN {ok : Nat → Bool} {n N : Nat} (h : rlU ok n = n) (h2 : ok n = false) (hN : n < N) : rlU ok N = n := by
  have := rlU_bad h h2 (N - (n + 1))
  rw [show n + 1 + (N - (n + 1)) = N by omega] at this
  exact this
theorem rlU_all {ok : Nat → Bool} {n : Nat} (h : rlU ok n = n) : ∀ i, i < n → ok i = true := by
  induction n with
  | zero => intro i hi; omega
  | succ n ih =>
    have hl := rlU_le ok n
    unfold rlU at h
    split at h
    · rename_i hc
      intro i hi
      by_cases e : i = n
      · rw [e]; exact hc.2
      · exact ih hc.1 i (by omega)
    · omega
def flt (r L : Nat) : Option Nat := if r = 0 ∨ r < L then some r else none
def okL (f : Nat → Nat) (i : Nat) : Bool := decide (f i = 71 ∨ (48 ≤ f i ∧ f i ≤ 57))
def okW (f : Nat → Nat) (i : Nat) : Bool := decide (f i = 102 ∨ f i = 100 ∨ f i = 114 ∨ f i = 97)
def linF (L : Nat) (f : Nat → Nat) : Option Nat := flt (rlU (okL f) (min L 12)) L
def skyF (L : Nat) (f : Nat → Nat) : Option Nat := flt (rlU (okW f) (min L 20)) L
def wcC (v : Nat) : Nat := if v = 102 then 0 else if v = 100 then 1 else if v = 114 then 2 else 3
theorem skS_wc {v : Nat} (h : v = 102 ∨ v = 100 ∨ v = 114 ∨ v = 97) : skS (wcC v) = v ∧ wcC v ≤ 3 := by
  rcases h with rfl | rfl | rfl | rfl <;> decide
def lin0 (ρ : Nat → Nat) : Nat → Nat := fun i => if i = 25 ∨ i = 26 then ρ i else 0
def linR (f ρ : Nat → Nat) : Nat → (Nat → Nat)
  | 0 => lin0 ρ
  | i + 1 => if f i = 71 then va_up (linR f ρ i) 24 (linR f ρ i 24 + 2 ^ i) else va_up (linR f ρ i) i (f i - 48)
theorem linR_24 {f ρ : Nat → Nat} (i : Nat) (hi : i ≤ 12) : linR f ρ i 24 < 2 ^ i := by
  induction i with
  | zero => exact (by decide : 0 < 2 ^ 0)
  | succ i ih =>
    have := ih (by omega)
    have hp : 2 ^ (i + 1) = 2 ^ i * 2 := Nat.pow_succ ..
    unfold linR
    split
    · rw [va_at', if_pos rfl]; omega
    · rw [va_at', if_neg (by omega)]; omega
theorem sumN_0 {n : Nat} {g : Nat → Nat} (h : ∀ i, i < n → g i = 0) : sumN n g = 0 := by
  induction n with
  | zero => rfl
  | succ n ih => rw [sumN, ih (fun i hi => h i (by omega)), h n (by omega)]
theorem tAt_in {L : Nat} {f : Nat → Nat} {i : Nat} (h : i < L) : tAt L f i = nI (f i) := if_pos h
theorem mF_nn {q : Nat} (h : q < 2 ^ 30) : (mF q).toInt < 0 := by
  have e : (mF q).toInt = -1 - (q : Int) := by unfold mF; rw [Int32.toInt_sub, nI_toInt (by omega), zm1, Int.bmod_eq_of_le (by omega) (by omega)]
  omega
theorem dig1 {f : Nat → Nat} {a : Nat} (h : 48 ≤ f a ∧ f a ≤ 57) : ∀ i, i < 1 → 48 ≤ f (a + i) ∧ f (a + i) ≤ 57 := by
  intro i hi
  have e : i = 0 := by omega
  rw [e, Nat.add_zero]
  exact h
section RD1
variable {σ σ' : zT} {tx : Nat × (Nat → Nat)} {bd : Nat × (Nat → Nat) × (Nat → Nat)} {sk : Nat × (Nat → Nat)} {tw : Nat × (Nat → Nat) × (Nat → Nat)} {xs : List Nat} {ld : Nat × (Nat → Nat)} {pa sh : Nat × (Nat → Nat → Nat)} {ru : Nat × (Nat → Nat) × (Nat → Nat)} {to : Nat × (Nat → Int64)}
theorem ClsIs.setNew {n' : Nat} {ρ' : Nat → Nat} {nx : Nat} (h : ClsIs σ tx bd sk tw xs ld pa sh ru to) (hf : FrG [6, 9, 25] σ σ') (hL : LandIs σ' 6 n' ρ') (hP : PastIs σ' nx 0 n' pa.2) (hS : ShelfIs σ' 0 n' sh.2) : ClsIs σ' tx bd sk tw xs (n', ρ') (0, pa.2) (0, sh.2) ru to := by
  obtain ⟨⟨kr, k1, k2, k3, k4⟩, h2, h3, h4, h5, h6, -, -, h9, h10⟩ := h
  have hk := zR_cases k1
  exact ⟨⟨kr, k1, by rw [hf.2]; exact k2, by rw [hf.2]; exact k3, k4.fr hf (by simp; omega)⟩, h2.fr hf (by decide), h3.fr hf (by decide), h4.fr hf (by decide), h5.fr hf (by decide), hL, ⟨nx, hP⟩, hS, h9.fr hf (by decide), h10.fr hf (by decide)⟩
theorem ClsIs.setB {bd' : Nat × (Nat → Nat) × (Nat → Nat)} (h : ClsIs σ tx bd sk tw xs ld pa sh ru to) (hf : FrG [2] σ σ') (hB : BandIs σ' bd'.1 bd'.2.1 bd'.2.2) : ClsIs σ' tx bd' sk tw xs ld pa sh ru to := by
  obtain ⟨⟨kr, k1, k2, k3, k4⟩, h2, h3, h4, h5, h6, ⟨nx, h7⟩, h8, h9, h10⟩ := h
  have hk := zR_cases k1
  exact ⟨⟨kr, k1, by rw [hf.2]; exact k2, by rw [hf.2]; exact k3, k4.fr hf (by simp; omega)⟩, h2.fr hf (by decide), hB, h4.fr hf (by decide), h5.fr hf (by decide), h6.fr hf (by decide), ⟨nx, h7.fr hf (by decide)⟩, h8.fr hf (by decide), h9.fr hf (by decide), h10.fr hf (by decide)⟩
theorem ClsIs.setS {sk' : Nat × (Nat → Nat)} (h : ClsIs σ tx bd sk tw xs ld pa sh ru to) (hf : FrG [3] σ σ') (hB : SkyIs σ' sk'.1 sk'.2) : ClsIs σ' tx bd sk' tw xs ld pa sh ru to := by
  obtain ⟨⟨kr, k1, k2, k3, k4⟩, h2, h3, h4, h5, h6, ⟨nx, h7⟩, h8, h9, h10⟩ := h
  have hk := zR_cases k1
  exact ⟨⟨kr, k1, by rw [hf.2]; exact k2, by rw [hf.2]; exact k3, k4.fr hf (by simp; omega)⟩, h2.fr hf (by decide), h3.fr hf (by decide), hB, h5.fr hf (by decide), h6.fr hf (by decide), ⟨nx, h7.fr hf (by decide)⟩, h8.fr hf (by decide), h9.fr hf (by decide), h10.fr hf (by decide)⟩
theorem ClsIs.setTw {tw' : Nat × (Nat → Nat) × (Nat → Nat)} (h : ClsIs σ tx bd sk tw xs ld pa sh ru to) (hf : FrG [4] σ σ') (hB : TownIs σ' tw'.1 tw'.2.1 tw'.2.2) : ClsIs σ' tx bd sk tw' xs ld pa sh ru to := by
  obtain ⟨⟨kr, k1, k2, k3, k4⟩, h2, h3, h4, h5, h6, ⟨nx, h7⟩, h8, h9, h10⟩ := h
  have hk := zR_cases k1
  exact ⟨⟨kr, k1, by rw [hf.2]; exact k2, by rw [hf.2]; exact k3, k4.fr hf (by simp; omega)⟩, h2.fr hf (by decide), h3.fr hf (by decide), h4.fr hf (by decide), hB, h6.fr hf (by decide), ⟨nx, h7.fr hf (by decide)⟩, h8.fr hf (by decide), h9.fr hf (by decide), h10.fr hf (by decide)⟩
/-- the text is gone -/
theorem ClsIs.noT (h : ClsIs σ tx bd sk tw xs ld pa sh ru to) : ClsIs (uS σ 1 1 (nI 0)) (0, tx.2) bd sk tw xs ld pa sh ru to :=
  h.setT (tx' := (0, tx.2)) (FrG.rf.uS (by simp)) ⟨uS_s _ _ _ _, Nat.zero_le _, fun i hi => by rw [uS_2]; exact h.2.1.2.2 i hi⟩
end RD1

theorem c_X11_lineFault {E : zE} {σ : zT} {L : Nat} {f : Nat → Nat} (hT : TextIs σ L f) : CalM E 2 yX11_lineFault cX11_lineFault 3 (some .int) [.ref (zA E 0 0)] σ (fun r σ' => r = some (.int (gM (linF L f))) ∧ σ' = σ) := by
  refine cal_of_go (own := RX11) rfl (by decide +kernel) (Nat.le_of_ble_eq_true rfl) ?_
  have hL := hT.2.1
  have loop : ∀ i : Nat, 0 < L → i ≤ min L 12 → rlU (okL f) i = i → GoM E 2 RX11 cX11_lineFault 3 (some .int) (fun r σ' => r = some (.int (gM (linF L f))) ∧ σ' = σ) σ 14 [(0, .ref (zA E 0 0)), (1, .int (nI i))] [] := by
    intro i h0
    induction hj : min L 12 - i using Nat.strongRecOn generalizing i with
    | ind z ih =>
      intro hi hr
      refine go_iload_n (i := 1) (pc := 14) dX11_lineFault_14 rfl rfl ?_
      refine go_aload_n (i := 0) (pc := 15) dX11_lineFault_15 rfl rfl ?_
      refine go_getr2 fl_X11_10 (pc := 16) dX11_lineFault_16 (by first | rfl | (apply zL_ci <;> assumption) | (apply zR_ci <;> assumption)) (by first | rfl | (apply zL_in <;> first | assumption | decide) | (apply zR_in <;> first | assumption | decide)) (by first | rfl | (apply zL_fr0 <;> assumption) | (apply zL_fr1 <;> assumption) | (apply zR_fr0 <;> assumption) | (apply zR_fr1 <;> assumption) | (apply zR_fr2 <;> assumption) | (apply zR_fr3 <;> assumption)) ?_
      refine go_callV ml_X11_108 mt_X8_size (pc := 19) dX11_lineFault_19 (c_X8_size hT) (by first | rfl | (apply zL_cq <;> assumption) | (apply zR_cq <;> assumption)) rfl (by first | rfl | (apply zL_in <;> first | assumption | decide) | (apply zR_in <;> first | assumption | decide)) (by decide) (by decide) rfl rfl (Nat.le_of_ble_eq_true rfl) (fun r σ' hp => ?_)
      obtain ⟨rfl, hσ⟩ := hp
      rw [hσ]
      clear hσ σ'
      dsimp only [zRet]
      refine go_icmp_ge 61 (pc := 22) dX11_lineFault_22 (by decide) (fun h22 => ?_) (fun h22 => ?_)
      · first | rw [nI_leI (by omega) (by omega)] at h22 | rw [zi_leN (by omega)] at h22 | rw [zi_Nle (by omega)] at h22 | rw [zi_le] at h22
        refine go_aload_n (i := 0) (pc := 61) dX11_lineFault_61 rfl rfl ?_
        refine go_getr2 fl_X11_10 (pc := 62) dX11_lineFault_62 (by first | rfl | (apply zL_ci <;> assumption) | (apply zR_ci <;> assumption)) (by first | rfl | (apply zL_in <;> first | assumption | decide) | (apply zR_in <;> first | assumption | decide)) (by first | rfl | (apply zL_fr0 <;> assumption) | (apply zL_fr1 <;> assumption) | (apply zR_fr0 <;> assumption) | (apply zR_fr1 <;> assumption) | (apply zR_fr2 <;> assumption) | (apply zR_fr3 <;> assumption)) ?_
        refine go_callV ml_X11_108 mt_X8_size (pc := 65) dX11_lineFault_65 (c_X8_size hT) (by first | rfl | (apply zL_cq <;> assumption) | (apply zR_cq <;> assumption)) rfl (by first | rfl | (apply zL_in <;> first | assumption | decide) | (apply zR_in <;> first | assumption | decide)) (by decide) (by decide) rfl rfl (Nat.le_of_ble_eq_true rfl) (fun r σ' hp => ?_)
        obtain ⟨rfl, hσ⟩ := hp
        rw [hσ]
        clear hσ σ'
        dsimp only [zRet]
        refine go_bipush (nI 12) (pc := 68) dX11_lineFault_68 (by decide) ?_
        refine go_icmp_le 78 (pc := 70) dX11_lineFault_70 (by decide) (fun h70 => ?_) (fun h70 => ?_)
        · first | rw [nI_leI (by omega) (by omega)] at h70 | rw [zi_leN (by omega)] at h70 | rw [zi_Nle (by omega)] at h70 | rw [zi_le] at h70
          refine go_iconst (-1) (pc := 78) dX11_lineFault_78 (by decide) ?_
          refine go_ireturn (pc := 79) dX11_lineFault_79 rfl ?_
          refine ⟨?_, rfl⟩
          have ei : i = min L 12 := by omega
          unfold linF flt
          rw [← ei, hr, if_neg (by omega)]
          rfl
        · first | rw [nI_leI (by omega) (by omega)] at h70 | rw [zi_leN (by omega)] at h70 | rw [zi_Nle (by omega)] at h70 | rw [zi_le] at h70
          refine go_bipush (nI 12) (pc := 73) dX11_lineFault_73 (by decide) ?_
          refine go_goto 79 (pc := 75) dX11_lineFault_75 (by decide) ?_
          refine go_ireturn (pc := 79) dX11_lineFault_79 rfl ?_
          refine ⟨?_, rfl⟩
          have ei : i = min L 12 := by omega
          unfold linF flt
          rw [← ei, hr, if_pos (by omega), show i = 12 by omega]
          rfl
      · first | rw [nI_leI (by omega) (by omega)] at h22 | rw [zi_leN (by omega)] at h22 | rw [zi_Nle (by omega)] at h22 | rw [zi_le] at h22
        refine go_iload_n (i := 1) (pc := 25) dX11_lineFault_25 rfl rfl ?_
        refine go_bipush (nI 12) (pc := 26) dX11_lineFault_26 (by decide) ?_
        refine go_icmp_ge 61 (pc := 28) dX11_lineFault_28 (by decide) (fun h28 => ?_) (fun h28 => ?_)
        · first | rw [nI_leI (by omega) (by omega)] at h28 | rw [zi_leN (by omega)] at h28 | rw [zi_Nle (by omega)] at h28 | rw [zi_le] at h28
          refine go_aload_n (i := 0) (pc := 61) dX11_lineFault_61 rfl rfl ?_
          refine go_getr2 fl_X11_10 (pc := 62) dX11_lineFault_62 (by first | rfl | (apply zL_ci <;> assumption) | (apply zR_ci <;> assumption)) (by first | rfl | (apply zL_in <;> first | assumption | decide) | (apply zR_in <;> first | assumption | decide)) (by first | rfl | (apply zL_fr0 <;> assumption) | (apply zL_fr1 <;> assumption) | (apply zR_fr0 <;> assumption) | (apply zR_fr1 <;> assumption) | (apply zR_fr2 <;> assumption) | (apply zR_fr3 <;> assumption)) ?_
          refine go_callV ml_X11_108 mt_X8_size (pc := 65) dX11_lineFault_65 (c_X8_size hT) (by first | rfl | (apply zL_cq <;> assumption) | (apply zR_cq <;> assumption)) rfl (by first | rfl | (apply zL_in <;> first | assumption | decide) | (apply zR_in <;> first | assumption | decide)) (by decide) (by decide) rfl rfl (Nat.le_of_ble_eq_true rfl) (fun r σ' hp => ?_)
          obtain ⟨rfl, hσ⟩ := hp
          rw [hσ]
          clear hσ σ'
          dsimp only [zRet]
          refine go_bipush (nI 12) (pc := 68) dX11_lineFault_68 (by decide) ?_
          refine go_icmp_le 78 (pc := 70) dX11_lineFault_70 (by decide) (fun h70 => ?_) (fun h70 => ?_)
          · first | rw [nI_leI (by omega) (by omega)] at h70 | rw [zi_leN (by omega)] at h70 | rw [zi_Nle (by omega)] at h70 | rw [zi_le] at h70
            refine go_iconst (-1) (pc := 78) dX11_lineFault_78 (by decide) ?_
            refine go_ireturn (pc := 79) dX11_lineFault_79 rfl ?_
            refine ⟨?_, rfl⟩
            have ei : i = min L 12 := by omega
            unfold linF flt
            rw [← ei, hr, if_neg (by omega)]
            rfl
          · first | rw [nI_leI (by omega) (by omega)] at h70 | rw [zi_leN (by omega)] at h70 | rw [zi_Nle (by omega)] at h70 | rw [zi_le] at h70
            refine go_bipush (nI 12) (pc := 73) dX11_lineFault_73 (by decide) ?_
            refine go_goto 79 (pc := 75) dX11_lineFault_75 (by decide) ?_
            refine go_ireturn (pc := 79) dX11_lineFault_79 rfl ?_
            refine ⟨?_, rfl⟩
            have ei : i = min L 12 := by omega
            unfold linF flt
            rw [← ei, hr, if_pos (by omega), show i = 12 by omega]
            rfl
        · first | rw [nI_leI (by omega) (by omega)] at h28 | rw [zi_leN (by omega)] at h28 | rw [zi_Nle (by omega)] at h28 | rw [zi_le] at h28
          refine go_aload_n (i := 0) (pc := 31) dX11_lineFault_31 rfl rfl ?_
          refine go_getr2 fl_X11_10 (pc := 32) dX11_lineFault_32 (by first | rfl | (apply zL_ci <;> assumption) | (apply zR_ci <;> assumption)) (by first | rfl | (apply zL_in <;> first | assumption | decide) | (apply zR_in <;> first | assumption | decide)) (by first | rfl | (apply zL_fr0 <;> assumption) | (apply zL_fr1 <;> assumption) | (apply zR_fr0 <;> assumption) | (apply zR_fr1 <;> assumption) | (apply zR_fr2 <;> assumption) | (apply zR_fr3 <;> assumption)) ?_
          refine go_iload_n (i := 1) (pc := 35) dX11_lineFault_35 rfl rfl ?_
          refine go_callV ml_X11_130 mt_X8_at (pc := 36) dX11_lineFault_36 (c_X8_at hT (by omega)) (by first | rfl | (apply zL_cq <;> assumption) | (apply zR_cq <;> assumption)) rfl (by first | rfl | (apply zL_in <;> first | assumption | decide) | (apply zR_in <;> first | assumption | decide)) (by decide) (by decide) rfl rfl (Nat.le_of_ble_eq_true rfl) (fun r σ' hp => ?_)
          obtain ⟨rfl, hσ⟩ := hp
          rw [hσ]
          clear hσ σ'
          dsimp only [zRet]
          rw [tAt_in (by omega)]
          have hv := (hT.2.2 i (by omega)).2
          refine go_istore_n (i := 2) (pc := 39) dX11_lineFault_39 rfl (by decide) ?_
          refine go_iload_n (i := 2) (pc := 40) dX11_lineFault_40 rfl rfl ?_
          refine go_bipush (nI 71) (pc := 41) dX11_lineFault_41 (by decide) ?_
          refine go_icmp_eq 55 (pc := 43) dX11_lineFault_43 (by decide) (fun h43 => ?_) (fun h43 => ?_)
          · first | rw [nI_eq (by omega) (by omega)] at h43 | rw [zi_eqN (by omega)] at h43 | rw [zi_Neq (by omega)] at h43 | rw [zi_eq] at h43
            have ho : okL f i = true := decide_eq_true (Or.inl h43)
            refine go_iincN (pc := 55) dX11_lineFault_55 rfl (by decide) ?_
            refine go_goto 14 (pc := 58) dX11_lineFault_58 (by decide) ?_
            refine go_drop [0, 1] rfl ?_
            exact ih (min L 12 - (i + 1)) (by omega) (i + 1) rfl (by omega) (rlU_s hr ho)
          · first | rw [nI_eq (by omega) (by omega)] at h43 | rw [zi_eqN (by omega)] at h43 | rw [zi_Neq (by omega)] at h43 | rw [zi_eq] at h43
            refine go_iload_n (i := 2) (pc := 46) dX11_lineFault_46 rfl rfl ?_
            refine go_callS ml_X11_134 mt_X11_isDigit (pc := 47) dX11_lineFault_47 (c_X11_isDigit) (by decide) (by decide) rfl rfl (Nat.le_of_ble_eq_true rfl) (fun r σ' hp => ?_)
            obtain ⟨rfl, hσ⟩ := hp
            rw [hσ]
            clear hσ σ'
            dsimp only [zRet]
            refine go_if_ne 55 (pc := 50) dX11_lineFault_50 (by decide) (fun h50 => ?_) (fun h50 => ?_)
            · rw [zb_0d, nI_toInt (by omega)] at h50
              have ho : okL f i = true := decide_eq_true (by omega)
              refine go_iincN (pc := 55) dX11_lineFault_55 rfl (by decide) ?_
              refine go_goto 14 (pc := 58) dX11_lineFault_58 (by decide) ?_
              refine go_drop [0, 1] rfl ?_
              exact ih (min L 12 - (i + 1)) (by omega) (i + 1) rfl (by omega) (rlU_s hr ho)
            · rw [zb_0d, nI_toInt (by omega)] at h50
              have ho : okL f i = false := decide_eq_false (by omega)
              have hq := rlU_badN hr ho (show i < min L 12 by omega)
              refine go_iload_n (i := 1) (pc := 53) dX11_lineFault_53 rfl rfl ?_
              refine go_ireturn (pc := 54) dX11_lineFault_54 rfl ?_
              refine ⟨?_, rfl⟩
              unfold linF flt
              rw [hq, if_pos (by omega)]
              rfl
  refine go_aload_n (i := 0) (pc := 0) dX11_lineFault_0 rfl rfl ?_
  refine go_getr2 fl_X11_10 (pc := 1) dX11_lineFault_1 (by first | rfl | (apply zL_ci <;> assumption) | (apply zR_ci <;> assumption)) (by first | rfl | (apply zL_in <;> first | assumption | decide) | (apply zR_in <;> first | assumption | decide)) (by first | rfl | (apply zL_fr0 <;> assumption) | (apply zL_fr1 <;> assumption) | (apply zR_fr0 <;> assumption) | (apply zR_fr1 <;> assumption) | (apply zR_fr2 <;> assumption) | (apply zR_fr3 <;> assumption)) ?_
  refine go_callV ml_X11_108 mt_X8_size (pc := 4) dX11_lineFault_4 (c_X8_size hT) (by first | rfl | (apply zL_cq <;> assumption) | (apply zR_cq <;> assumption)) rfl (by first | rfl | (apply zL_in <;> first | assumption | decide) | (apply zR_in <;> first | assumption | decide)) (by decide) (by decide) rfl rfl (Nat.le_of_ble_eq_true rfl) (fun r σ' hp => ?_)
  obtain ⟨rfl, hσ⟩ := hp
  rw [hσ]
  clear hσ σ'
  dsimp only [zRet]
  refine go_if_ne 12 (pc := 7) dX11_lineFault_7 (by decide) (fun h7 => ?_) (fun h7 => ?_)
  · first | rw [zb_0d] at h7 | rw [zn_eq0 (by omega)] at h7 | rw [zi_eq0] at h7
    refine go_iconst (nI 0) (pc := 12) dX11_lineFault_12 (by decide) ?_
    refine go_istore_n (i := 1) (pc := 13) dX11_lineFault_13 rfl (by decide) ?_
    exact loop 0 (by omega) (by omega) rfl
  · first | rw [zb_0d] at h7 | rw [zn_eq0 (by omega)] at h7 | rw [zi_eq0] at h7
    refine go_iconst (nI 0) (pc := 10) dX11_lineFault_10 (by decide) ?_
    refine go_ireturn (pc := 11) dX11_lineFault_11 rfl ?_
    refine ⟨?_, rfl⟩
    have e : L = 0 := by omega
    subst e
    rfl

theorem c_X2_beginAnew {E : zE} {σ : zT} {L n : Nat} {f ρ : Nat → Nat} (hT : TextIs σ L f) (hL : LandIs σ 6 n ρ) (h1 : 1 ≤ L) (h12 : L ≤ 12) (hok : ∀ i, i < L → okL f i = true) : CalM E 3 yX2_beginAnew cX2_beginAnew 3 none [.ref (zA E 6 0), .ref (zA E 1 0)] σ (fun r σ' => r = none ∧ LandIs σ' 6 L (linR f ρ L) ∧ FrG [6] σ σ') := by
  refine cal_of_go (own := RX2) rfl (by decide +kernel) (Nat.le_of_ble_eq_true rfl) ?_
  have loop : ∀ (i : Nat) (τ : zT), i ≤ L → (LandIs τ 6 L (linR f ρ i)) → (FrG [6] σ τ) → GoM E 3 RX2 cX2_beginAnew 3 none (fun r σ' => r = none ∧ LandIs σ' 6 L (linR f ρ L) ∧ FrG [6] σ σ') τ 60 [(0, .ref (zA E 6 0)), (1, .ref (zA E 1 0)), (2, .int (nI i))] [] := by
    intro i
    induction hj : L - i using Nat.strongRecOn generalizing i with
    | ind z ih =>
      intro τ hi hLt hf
      have hTt := hT.fr hf (by simp)
      have h24 := linR_24 (f := f) (ρ := ρ) i (by omega)
      refine go_iload_n (i := 2) (pc := 60) dX2_beginAnew_60 rfl rfl ?_
      refine go_aload_n (i := 0) (pc := 61) dX2_beginAnew_61 rfl rfl ?_
      refine go_geti fl_X2_18 (pc := 62) dX2_beginAnew_62 (by first | rfl | (apply zL_fi <;> first | assumption | decide) | (apply zR_fi <;> first | assumption | decide)) ?_
      rw [hLt.f2]
      refine go_icmp_ge 110 (pc := 65) dX2_beginAnew_65 (by decide) (fun h65 => ?_) (fun h65 => ?_)
      · first | rw [nI_leI (by omega) (by omega)] at h65 | rw [zi_leN (by omega)] at h65 | rw [zi_Nle (by omega)] at h65 | rw [zi_le] at h65
        have ei : i = L := by omega
        subst ei
        refine go_return (pc := 110) dX2_beginAnew_110 rfl ?_
        exact ⟨rfl, hLt, hf⟩
      · first | rw [nI_leI (by omega) (by omega)] at h65 | rw [zi_leN (by omega)] at h65 | rw [zi_Nle (by omega)] at h65 | rw [zi_le] at h65
        refine go_aload_n (i := 1) (pc := 68) dX2_beginAnew_68 rfl rfl ?_
        refine go_iload_n (i := 2) (pc := 69) dX2_beginAnew_69 rfl rfl ?_
        refine go_callV ml_X2_70 mt_X8_at (pc := 70) dX2_beginAnew_70 (c_X8_at hTt (by omega)) (by first | rfl | (apply zL_cq <;> assumption) | (apply zR_cq <;> assumption)) rfl (by first | rfl | (apply zL_in <;> first | assumption | decide) | (apply zR_in <;> first | assumption | decide)) (by decide) (by decide) rfl rfl (Nat.le_of_ble_eq_true rfl) (fun r σ' hp => ?_)
        obtain ⟨rfl, hσ⟩ := hp
        rw [hσ]
        clear hσ σ'
        dsimp only [zRet]
        rw [tAt_in (by omega)]
        have hv := (hT.2.2 i (by omega)).2
        have ho := of_decide_eq_true (hok i (by omega))
        refine go_bipush (nI 71) (pc := 73) dX2_beginAnew_73 (by decide) ?_
        refine go_icmp_ne 93 (pc := 75) dX2_beginAnew_75 (by decide) (fun h75 => ?_) (fun h75 => ?_)
        · first | rw [nI_eq (by omega) (by omega)] at h75 | rw [zi_eqN (by omega)] at h75 | rw [zi_Neq (by omega)] at h75 | rw [zi_eq] at h75
          refine go_aload_n (i := 0) (pc := 93) dX2_beginAnew_93 rfl rfl ?_
          refine go_iload_n (i := 2) (pc := 94) dX2_beginAnew_94 rfl rfl ?_
          refine go_aload_n (i := 1) (pc := 95) dX2_beginAnew_95 rfl rfl ?_
          refine go_iload_n (i := 2) (pc := 96) dX2_beginAnew_96 rfl rfl ?_
          refine go_iconst (nI 1) (pc := 97) dX2_beginAnew_97 (by decide) ?_
          refine go_callV ml_X2_74 mt_X8_number (pc := 98) dX2_beginAnew_98 (c_X8_number hTt (by decide) (by omega) (dig1 (by omega))) (by first | rfl | (apply zL_cq <;> assumption) | (apply zR_cq <;> assumption)) rfl (by first | rfl | (apply zL_in <;> first | assumption | decide) | (apply zR_in <;> first | assumption | decide)) (by decide) (by decide) rfl rfl (Nat.le_of_ble_eq_true rfl) (fun r σ' hp => ?_)
          obtain ⟨rfl, hσ⟩ := hp
          rw [hσ]
          clear hσ σ'
          dsimp only [zRet]
          refine go_callV ml_X2_77 mt_X2_setHedge (pc := 101) dX2_beginAnew_101 (c_X2_setHedge rfl hLt (by omega)) (by first | rfl | (apply zL_cq <;> assumption) | (apply zR_cq <;> assumption)) rfl (by first | rfl | (apply zL_in <;> first | assumption | decide) | (apply zR_in <;> first | assumption | decide)) (by decide) (by decide) rfl rfl (Nat.le_of_ble_eq_true rfl) (fun r σ' hp => ?_)
          obtain ⟨rfl, hL2, hf2⟩ := hp
          dsimp only [zRet]
          rw [show tNum f i 1 0 = f i - 48 by simp [tNum], clp_in (by omega) (by decide)] at hL2
          have es : linR f ρ (i + 1) = va_up (linR f ρ i) i (f i - 48) := by rw [linR, if_neg h75]
          rw [← es] at hL2
          have hf3 := hf.tr hf2
          refine go_iincN (pc := 104) dX2_beginAnew_104 rfl (by decide) ?_
          refine go_goto 60 (pc := 107) dX2_beginAnew_107 (by decide) ?_
          exact ih (L - (i + 1)) (by omega) (i + 1) rfl _ (by omega) hL2 hf3
        · first | rw [nI_eq (by omega) (by omega)] at h75 | rw [zi_eqN (by omega)] at h75 | rw [zi_Neq (by omega)] at h75 | rw [zi_eq] at h75
          refine go_aload_n (i := 0) (pc := 78) dX2_beginAnew_78 rfl rfl ?_
          refine go_dup (pc := 79) dX2_beginAnew_79 rfl ?_
          refine go_geti fl_X2_34 (pc := 80) dX2_beginAnew_80 (by first | rfl | (apply zL_fi <;> first | assumption | decide) | (apply zR_fi <;> first | assumption | decide)) ?_
          rw [hLt.f3]
          refine go_iconst (nI 1) (pc := 83) dX2_beginAnew_83 (by decide) ?_
          refine go_iload_n (i := 2) (pc := 84) dX2_beginAnew_84 rfl rfl ?_
          refine go_ishl (pc := 85) dX2_beginAnew_85 ?_
          refine go_ior (pc := 86) dX2_beginAnew_86 ?_
          rw [zor2 h24 (by omega)]
          refine go_puti fp_X2_34 (pc := 87) dX2_beginAnew_87 (by first | rfl | (apply zL_fi <;> first | assumption | decide) | (apply zR_fi <;> first | assumption | decide)) rfl rfl ?_
          have es : linR f ρ (i + 1) = va_up (linR f ρ i) 24 (linR f ρ i 24 + 2 ^ i) := by rw [linR, if_pos (by omega)]
          have hpw : 2 ^ (i + 1) ≤ 2 ^ L := Nat.pow_le_pow_right (by decide) (by omega)
          have hpw2 : 2 ^ (i + 1) = 2 ^ i * 2 := Nat.pow_succ ..
          have hL2 := hLt.sc (f := 3) (i := 24) (v := linR f ρ i 24 + 2 ^ i) (Or.inl ⟨rfl, rfl⟩) (hLt.1.hi (Or.inl ⟨rfl, by omega⟩))
          rw [← es] at hL2
          have hf3 : FrG [6] σ (uS τ 6 3 (nI (linR f ρ i 24 + 2 ^ i))) := hf.uS (by simp)
          refine go_goto 104 (pc := 90) dX2_beginAnew_90 (by decide) ?_
          refine go_iincN (pc := 104) dX2_beginAnew_104 rfl (by decide) ?_
          refine go_goto 60 (pc := 107) dX2_beginAnew_107 (by decide) ?_
          exact ih (L - (i + 1)) (by omega) (i + 1) rfl _ (by omega) hL2 hf3
  refine go_aload_n (i := 0) (pc := 0) dX2_beginAnew_0 rfl rfl ?_
  refine go_getr2 fl_X2_9 (pc := 1) dX2_beginAnew_1 (by first | rfl | (apply zL_ci <;> assumption) | (apply zR_ci <;> assumption)) (by first | rfl | (apply zL_in <;> first | assumption | decide) | (apply zR_in <;> first | assumption | decide)) (by first | rfl | (apply zL_fr0 <;> assumption) | (apply zL_fr1 <;> assumption) | (apply zR_fr0 <;> assumption) | (apply zR_fr1 <;> assumption) | (apply zR_fr2 <;> assumption) | (apply zR_fr3 <;> assumption)) ?_
  refine go_iconst (nI 0) (pc := 4) dX2_beginAnew_4 (by decide) ?_
  refine go_callS ml_X2_49 mt_J7_fill_53178 (pc := 5) dX2_beginAnew_5 (c_J7_fill_53178 (by first | rfl | (apply zL_ar1; rfl)) rfl) (by decide) (by decide) rfl rfl (Nat.le_of_ble_eq_true rfl) (fun r σ' hp => ?_)
  obtain ⟨rfl, g1, rfl, hg1⟩ := hp
  dsimp only [zRet]
  refine go_aload_n (i := 0) (pc := 8) dX2_beginAnew_8 rfl rfl ?_
  refine go_getr2 fl_X2_15 (pc := 9) dX2_beginAnew_9 (by first | rfl | (apply zL_ci <;> assumption) | (apply zR_ci <;> assumption)) (by first | rfl | (apply zL_in <;> first | assumption | decide) | (apply zR_in <;> first | assumption | decide)) (by first | rfl | (apply zL_fr0 <;> assumption) | (apply zL_fr1 <;> assumption) | (apply zR_fr0 <;> assumption) | (apply zR_fr1 <;> assumption) | (apply zR_fr2 <;> assumption) | (apply zR_fr3 <;> assumption)) ?_
  refine go_iconst (nI 0) (pc := 12) dX2_beginAnew_12 (by decide) ?_
  refine go_callS ml_X2_49 mt_J7_fill_53178 (pc := 13) dX2_beginAnew_13 (c_J7_fill_53178 (by first | rfl | (apply zL_ar2; rfl)) rfl) (by decide) (by decide) rfl rfl (Nat.le_of_ble_eq_true rfl) (fun r σ' hp => ?_)
  obtain ⟨rfl, g2, rfl, hg2⟩ := hp
  dsimp only [zRet]
  refine go_aload_n (i := 0) (pc := 16) dX2_beginAnew_16 rfl rfl ?_
  refine go_iconst (nI 1) (pc := 17) dX2_beginAnew_17 (by decide) ?_
  refine go_aload_n (i := 1) (pc := 18) dX2_beginAnew_18 rfl rfl ?_
  refine go_callV ml_X2_55 mt_X8_size (pc := 19) dX2_beginAnew_19 (c_X8_size (hT.fr (S := [6]) ((FrG.rf.uA (by simp)).uA (by simp)) (by simp))) (by first | rfl | (apply zL_cq <;> assumption) | (apply zR_cq <;> assumption)) rfl (by first | rfl | (apply zL_in <;> first | assumption | decide) | (apply zR_in <;> first | assumption | decide)) (by decide) (by decide) rfl rfl (Nat.le_of_ble_eq_true rfl) (fun r σ' hp => ?_)
  obtain ⟨rfl, hσ⟩ := hp
  rw [hσ]
  clear hσ σ'
  dsimp only [zRet]
  refine go_bipush (nI 12) (pc := 22) dX2_beginAnew_22 (by decide) ?_
  refine go_callS ml_X2_61 mt_J9_min_7cf53 (pc := 24) dX2_beginAnew_24 (c_J9_minN (by have := hT.2.1; omega) (by decide)) (by decide) (by decide) rfl rfl (Nat.le_of_ble_eq_true rfl) (fun r σ' hp => ?_)
  obtain ⟨rfl, hσ⟩ := hp
  rw [hσ]
  clear hσ σ'
  dsimp only [zRet]
  refine go_callS ml_X2_67 mt_J9_max_7cf53 (pc := 27) dX2_beginAnew_27 (c_J9_maxN (by decide) (by omega)) (by decide) (by decide) rfl rfl (Nat.le_of_ble_eq_true rfl) (fun r σ' hp => ?_)
  obtain ⟨rfl, hσ⟩ := hp
  rw [hσ]
  clear hσ σ'
  dsimp only [zRet]
  rw [show max 1 (min L 12) = L by omega]
  refine go_puti fp_X2_18 (pc := 30) dX2_beginAnew_30 (by first | rfl | (apply zL_fi <;> first | assumption | decide) | (apply zR_fi <;> first | assumption | decide)) rfl rfl ?_
  refine go_aload_n (i := 0) (pc := 33) dX2_beginAnew_33 rfl rfl ?_
  refine go_iconst (nI 0) (pc := 34) dX2_beginAnew_34 (by decide) ?_
  refine go_puti fp_X2_34 (pc := 35) dX2_beginAnew_35 (by first | rfl | (apply zL_fi <;> first | assumption | decide) | (apply zR_fi <;> first | assumption | decide)) rfl rfl ?_
  refine go_aload_n (i := 0) (pc := 38) dX2_beginAnew_38 rfl rfl ?_
  refine go_iconst (nI 0) (pc := 39) dX2_beginAnew_39 (by decide) ?_
  refine go_puti fp_X2_37 (pc := 40) dX2_beginAnew_40 (by first | rfl | (apply zL_fi <;> first | assumption | decide) | (apply zR_fi <;> first | assumption | decide)) rfl rfl ?_
  refine go_aload_n (i := 0) (pc := 43) dX2_beginAnew_43 rfl rfl ?_
  refine go_iconst (nI 0) (pc := 44) dX2_beginAnew_44 (by decide) ?_
  refine go_puti fp_X2_40 (pc := 45) dX2_beginAnew_45 (by first | rfl | (apply zL_fi <;> first | assumption | decide) | (apply zR_fi <;> first | assumption | decide)) rfl rfl ?_
  refine go_aload_n (i := 0) (pc := 48) dX2_beginAnew_48 rfl rfl ?_
  refine go_iconst (nI 0) (pc := 49) dX2_beginAnew_49 (by decide) ?_
  refine go_puti fp_X2_43 (pc := 50) dX2_beginAnew_50 (by first | rfl | (apply zL_fi <;> first | assumption | decide) | (apply zR_fi <;> first | assumption | decide)) rfl rfl ?_
  refine go_aload_n (i := 0) (pc := 53) dX2_beginAnew_53 rfl rfl ?_
  refine go_iconst (nI 0) (pc := 54) dX2_beginAnew_54 (by decide) ?_
  refine go_puti fp_X2_46 (pc := 55) dX2_beginAnew_55 (by first | rfl | (apply zL_fi <;> first | assumption | decide) | (apply zR_fi <;> first | assumption | decide)) rfl rfl ?_
  refine go_iconst (nI 0) (pc := 58) dX2_beginAnew_58 (by decide) ?_
  refine go_istore_n (i := 2) (pc := 59) dX2_beginAnew_59 rfl (by decide) ?_
  have hfu : FrG [6] σ (uS (uS (uS (uS (uS (uS (uA (uA σ 6 1 g1) 6 2 g2) 6 2 (nI L)) 6 3 (nI 0)) 6 4 (nI 0)) 6 5 (nI 0)) 6 8 (nI 0)) 6 9 (nI 0)) := (((((((FrG.rf.uA (by simp)).uA (by simp)).uS (by simp)).uS (by simp)).uS (by simp)).uS (by simp)).uS (by simp)).uS (by simp)
  have hz : ∀ i, i < 25 → lin0 ρ i = 0 := fun i hi => if_neg (by omega)
  have hL0 : LandIs (uS (uS (uS (uS (uS (uS (uA (uA σ 6 1 g1) 6 2 g2) 6 2 (nI L)) 6 3 (nI 0)) 6 4 (nI 0)) 6 5 (nI 0)) 6 8 (nI 0)) 6 9 (nI 0)) 6 L (lin0 ρ) := by
    refine ⟨⟨h1, h12, fun i hi => by rw [hz i (by omega)]; omega, by rw [hz 24 (by decide)]; exact Nat.two_pow_pos _, hL.1.2.2.2.2.1, hL.1.2.2.2.2.2.1, by rw [show lin0 ρ 27 = 0 from rfl]; decide, by rw [show lin0 ρ 28 = 0 from rfl]; decide⟩, fun q hq1 hq2 => ?_, fun i hi => ⟨?_, ?_⟩⟩
    · have hq : q = 2 ∨ q = 3 ∨ q = 4 ∨ q = 5 ∨ q = 6 ∨ q = 7 ∨ q = 8 ∨ q = 9 := by omega
      rcases hq with rfl | rfl | rfl | rfl | rfl | rfl | rfl | rfl
      · rfl
      · rfl
      · show nI 0 = nI (menSum L (lin0 ρ))
        rw [show menSum L (lin0 ρ) = 0 from sumN_0 (fun i hi => hz _ (by omega))]
      · show nI 0 = nI (menCnt L (lin0 ρ))
        rw [show menCnt L (lin0 ρ) = 0 from sumN_0 (fun i hi => by rw [hz _ (by omega)]; rfl)]
      · exact hL.f6
      · exact hL.f7
      · rfl
      · rfl
    · show g1 i = nI (lin0 ρ i)
      rw [hz i (by omega), hg1 i hi]
    · show g2 i = nI (lin0 ρ (12 + i))
      rw [hz _ (by omega), hg2 i hi]
  exact loop 0 _ (by omega) hL0 hfu

theorem c_X11_line {E : zE} {σ : zT} {tx : Nat × (Nat → Nat)} {bd : Nat × (Nat → Nat) × (Nat → Nat)} {sk : Nat × (Nat → Nat)} {tw : Nat × (Nat → Nat) × (Nat → Nat)} {xs : List Nat} {ld : Nat × (Nat → Nat)} {pa sh : Nat × (Nat → Nat → Nat)} {ru : Nat × (Nat → Nat) × (Nat → Nat)} {to : Nat × (Nat → Int64)} (hC : ClsIs σ tx bd sk tw xs ld pa sh ru to) : CalM E 4 yX11_line cX11_line 2 (some .int) [.ref (zA E 0 0)] σ (fun r σ' => r = some (.int (match linF tx.1 tx.2 with | none => nI tx.1 | some q => mF q)) ∧ ClsIs σ' (0, tx.2) bd sk tw xs (match linF tx.1 tx.2 with | none => (tx.1, linR tx.2 ld.2 tx.1) | some _ => ld) (match linF tx.1 tx.2 with | none => (0, pa.2) | some _ => pa) (match linF tx.1 tx.2 with | none => (0, sh.2) | some _ => sh) ru to ∧ Fr33 σ σ') := by
  refine cal_of_go (own := RX11) rfl (by decide +kernel) (Nat.le_of_ble_eq_true rfl) ?_
  have hL := hC.2.2.2.2.2.1
  have hn := hL.b
  have hok := hL.1
  have hB0 := hC.2.2.1
  have hnc := hB0.1
  have hT := hC.2.1
  have hT80 := hT.2.1
  have hlin : linF tx.1 tx.2 = none → 1 ≤ tx.1 ∧ tx.1 ≤ 12 ∧ ∀ i, i < tx.1 → okL tx.2 i = true := fun h => by
    have hl := rlU_le (okL tx.2) (min tx.1 12)
    unfold linF flt at h
    split at h
    · cases h
    · rename_i hc
      exact ⟨by omega, by omega, fun i hi => rlU_all (n := min tx.1 12) (by omega) i (by omega)⟩
  have hlb : ∀ q, linF tx.1 tx.2 = some q → q < 2 ^ 31 := fun q h => by
    have hl := rlU_le (okL tx.2) (min tx.1 12)
    unfold linF flt at h
    split at h
    · cases h; omega
    · cases h
  refine go_aload_n (i := 0) (pc := 0) dX11_line_0 rfl rfl ?_
  refine go_callV ml_X11_115 mt_X11_lineFault (pc := 1) dX11_line_1 (c_X11_lineFault hT) (by first | rfl | (apply zL_cq <;> assumption) | (apply zR_cq <;> assumption)) rfl (by first | rfl | (apply zL_in <;> first | assumption | decide) | (apply zR_in <;> first | assumption | decide)) (by decide) (by decide) rfl rfl (Nat.le_of_ble_eq_true rfl) (fun r σ' hp => ?_)
  obtain ⟨rfl, hσ⟩ := hp
  rw [hσ]
  clear hσ σ'
  dsimp only [zRet]
  refine go_istore_n (i := 1) (pc := 4) dX11_line_4 rfl (by decide) ?_
  refine go_iload_n (i := 1) (pc := 5) dX11_line_5 rfl rfl ?_
  refine go_iconst (-1) (pc := 6) dX11_line_6 (by decide) ?_
  refine go_icmp_ne 35 (pc := 7) dX11_line_7 (by decide) (fun h7 => ?_) (fun h7 => ?_)
  · rw [gM_n hlb] at h7
    obtain ⟨q, hq⟩ : ∃ q, linF tx.1 tx.2 = some q := by { cases hd : linF tx.1 tx.2 with | none => exact absurd hd h7 | some x => exact ⟨x, rfl⟩ }
    have hq31 := hlb q hq
    rw [hq]
    dsimp only [gM]
    have hC4 := hC
    have hfA : FrG [6, 9, 25] σ σ := FrG.rf
    refine go_aload_n (i := 0) (pc := 35) dX11_line_35 rfl rfl ?_
    refine go_getr2 fl_X11_10 (pc := 36) dX11_line_36 (by first | rfl | (apply zL_ci <;> assumption) | (apply zR_ci <;> assumption)) (by first | rfl | (apply zL_in <;> first | assumption | decide) | (apply zR_in <;> first | assumption | decide)) (by first | rfl | (apply zL_fr0 <;> assumption) | (apply zL_fr1 <;> assumption) | (apply zR_fr0 <;> assumption) | (apply zR_fr1 <;> assumption) | (apply zR_fr2 <;> assumption) | (apply zR_fr3 <;> assumption)) ?_
    refine go_callV ml_X11_126 mt_X8_clear (pc := 39) dX11_line_39 (c_X8_clear) (by first | rfl | (apply zL_cq <;> assumption) | (apply zR_cq <;> assumption)) rfl (by first | rfl | (apply zL_in <;> first | assumption | decide) | (apply zR_in <;> first | assumption | decide)) (by decide) (by decide) rfl rfl (Nat.le_of_ble_eq_true rfl) (fun r σ' hp => ?_)
    obtain ⟨rfl, rfl⟩ := hp
    dsimp only [zRet]
    have hC5 := hC4.noT
    refine go_iload_n (i := 1) (pc := 42) dX11_line_42 rfl rfl ?_
    refine go_iconst (-1) (pc := 43) dX11_line_43 (by decide) ?_
    first
      | (refine go_icmp_ne 57 (pc := 44) dX11_line_44 (by decide) (fun h44 => absurd rfl h44) (fun h44 => ?_)
         refine go_aload_n (i := 0) (pc := 47) dX11_line_47 rfl rfl ?_
         refine go_getr2 fl_X11_49 (pc := 48) dX11_line_48 rfl rfl rfl ?_
         refine go_callV ml_X11_127 mt_X2_miles (pc := 51) dX11_line_51 (c_X2_miles rfl hC5.2.2.2.2.2.1) rfl rfl rfl (by decide) (by decide) rfl rfl (Nat.le_of_ble_eq_true rfl) (fun r σ' hp => ?_)
         obtain ⟨rfl, hσ⟩ := hp
         rw [hσ]
         clear hσ σ'
         dsimp only [zRet]
         refine go_goto 60 (pc := 54) dX11_line_54 (by decide) ?_
         refine go_ireturn (pc := 60) dX11_line_60 rfl ?_
         exact ⟨rfl, hC5, (Fr33.of hfA (by simp)).tr (Fr33.of (FrG.rf.uS (S := [1]) (by simp)) (by simp))⟩)
      | (refine go_icmp_ne 57 (pc := 44) dX11_line_44 (by decide) (fun h44 => ?_) (fun h44 => ?_)
         · refine go_iconst (-1) (pc := 57) dX11_line_57 (by decide) ?_
           refine go_iload_n (i := 1) (pc := 58) dX11_line_58 rfl rfl ?_
           refine go_isub (pc := 59) dX11_line_59 ?_
           refine go_ireturn (pc := 60) dX11_line_60 rfl ?_
           exact ⟨rfl, hC5, (Fr33.of hfA (by simp)).tr (Fr33.of (FrG.rf.uS (S := [1]) (by simp)) (by simp))⟩
         · exfalso
           rw [zi_eq, nI_toInt hq31, zm1] at h44
           omega)
  · rw [gM_n hlb] at h7
    rw [h7]
    dsimp only [gM]
    refine go_aload_n (i := 0) (pc := 10) dX11_line_10 rfl rfl ?_
    refine go_getr2 fl_X11_49 (pc := 11) dX11_line_11 (by first | rfl | (apply zL_ci <;> assumption) | (apply zR_ci <;> assumption)) (by first | rfl | (apply zL_in <;> first | assumption | decide) | (apply zR_in <;> first | assumption | decide)) (by first | rfl | (apply zL_fr0 <;> assumption) | (apply zL_fr1 <;> assumption) | (apply zR_fr0 <;> assumption) | (apply zR_fr1 <;> assumption) | (apply zR_fr2 <;> assumption) | (apply zR_fr3 <;> assumption)) ?_
    refine go_aload_n (i := 0) (pc := 14) dX11_line_14 rfl rfl ?_
    refine go_getr2 fl_X11_10 (pc := 15) dX11_line_15 (by first | rfl | (apply zL_ci <;> assumption) | (apply zR_ci <;> assumption)) (by first | rfl | (apply zL_in <;> first | assumption | decide) | (apply zR_in <;> first | assumption | decide)) (by first | rfl | (apply zL_fr0 <;> assumption) | (apply zL_fr1 <;> assumption) | (apply zR_fr0 <;> assumption) | (apply zR_fr1 <;> assumption) | (apply zR_fr2 <;> assumption) | (apply zR_fr3 <;> assumption)) ?_
    refine go_callV ml_X11_118 mt_X2_beginAnew (pc := 18) dX11_line_18 (c_X2_beginAnew hT hL (hlin h7).1 (hlin h7).2.1 (hlin h7).2.2) (by first | rfl | (apply zL_cq <;> assumption) | (apply zR_cq <;> assumption)) rfl (by first | rfl | (apply zL_in <;> first | assumption | decide) | (apply zR_in <;> first | assumption | decide)) (by decide) (by decide) rfl rfl (Nat.le_of_ble_eq_true rfl) (fun r σ' hp => ?_)
    obtain ⟨rfl, hL2, hf2⟩ := hp
    dsimp only [zRet]
    obtain ⟨nx, hP⟩ := hC.2.2.2.2.2.2.1
    have hP2 := hP.fr hf2 (by decide)
    refine go_aload_n (i := 0) (pc := 21) dX11_line_21 rfl rfl ?_
    refine go_getr2 fl_X11_62 (pc := 22) dX11_line_22 (by first | rfl | (apply zL_ci <;> assumption) | (apply zR_ci <;> assumption)) (by first | rfl | (apply zL_in <;> first | assumption | decide) | (apply zR_in <;> first | assumption | decide)) (by first | rfl | (apply zL_fr0 <;> assumption) | (apply zL_fr1 <;> assumption) | (apply zR_fr0 <;> assumption) | (apply zR_fr1 <;> assumption) | (apply zR_fr2 <;> assumption) | (apply zR_fr3 <;> assumption)) ?_
    refine go_callV ml_X11_122 mt_X3_clear (pc := 25) dX11_line_25 (c_X3_clear hP2) (by first | rfl | (apply zL_cq <;> assumption) | (apply zR_cq <;> assumption)) rfl (by first | rfl | (apply zL_in <;> first | assumption | decide) | (apply zR_in <;> first | assumption | decide)) (by decide) (by decide) rfl rfl (Nat.le_of_ble_eq_true rfl) (fun r σ' hp => ?_)
    obtain ⟨rfl, hP3, hf3⟩ := hp
    dsimp only [zRet]
    refine go_aload_n (i := 0) (pc := 28) dX11_line_28 rfl rfl ?_
    refine go_getr2 fl_X11_69 (pc := 29) dX11_line_29 (by first | rfl | (apply zL_ci <;> assumption) | (apply zR_ci <;> assumption)) (by first | rfl | (apply zL_in <;> first | assumption | decide) | (apply zR_in <;> first | assumption | decide)) (by first | rfl | (apply zL_fr0 <;> assumption) | (apply zL_fr1 <;> assumption) | (apply zR_fr0 <;> assumption) | (apply zR_fr1 <;> assumption) | (apply zR_fr2 <;> assumption) | (apply zR_fr3 <;> assumption)) ?_
    refine go_callV ml_X11_125 mt_X6_clear (pc := 32) dX11_line_32 (c_X6_clear) (by first | rfl | (apply zL_cq <;> assumption) | (apply zR_cq <;> assumption)) rfl (by first | rfl | (apply zL_in <;> first | assumption | decide) | (apply zR_in <;> first | assumption | decide)) (by decide) (by decide) rfl rfl (Nat.le_of_ble_eq_true rfl) (fun r σ' hp => ?_)
    obtain ⟨rfl, hS4, hf4⟩ := hp
    dsimp only [zRet]
    have hfA : FrG [6, 9, 25] σ σ' := (((hf2.mono (by simp)).tr (hf3.mono (by simp))).tr (hf4.mono (by simp)))
    have hL4 := ((hL2.fr hf3 (by simp)).fr hf4 (by simp))
    have hP4 := (hP3 pa.2).fr hf4 (by decide)
    have hC4 := hC.setNew hfA hL4 ⟨hP4.1, hP4.2.1, hP4.2.2.1, hP4.2.2.2.1, fun i hi => absurd hi (by omega)⟩ (hS4 _ sh.2)
    refine go_aload_n (i := 0) (pc := 35) dX11_line_35 rfl rfl ?_
    refine go_getr2 fl_X11_10 (pc := 36) dX11_line_36 (by first | rfl | (apply zL_ci <;> assumption) | (apply zR_ci <;> assumption)) (by first | rfl | (apply zL_in <;> first | assumption | decide) | (apply zR_in <;> first | assumption | decide)) (by first | rfl | (apply zL_fr0 <;> assumption) | (apply zL_fr1 <;> assumption) | (apply zR_fr0 <;> assumption) | (apply zR_fr1 <;> assumption) | (apply zR_fr2 <;> assumption) | (apply zR_fr3 <;> assumption)) ?_
    refine go_callV ml_X11_126 mt_X8_clear (pc := 39) dX11_line_39 (c_X8_clear) (by first | rfl | (apply zL_cq <;> assumption) | (apply zR_cq <;> assumption)) rfl (by first | rfl | (apply zL_in <;> first | assumption | decide) | (apply zR_in <;> first | assumption | decide)) (by decide) (by decide) rfl rfl (Nat.le_of_ble_eq_true rfl) (fun r σ' hp => ?_)
    obtain ⟨rfl, rfl⟩ := hp
    dsimp only [zRet]
    have hC5 := hC4.noT
    refine go_iload_n (i := 1) (pc := 42) dX11_line_42 rfl rfl ?_
    refine go_iconst (-1) (pc := 43) dX11_line_43 (by decide) ?_
    first
      | (refine go_icmp_ne 57 (pc := 44) dX11_line_44 (by decide) (fun h44 => absurd rfl h44) (fun h44 => ?_)
         refine go_aload_n (i := 0) (pc := 47) dX11_line_47 rfl rfl ?_
         refine go_getr2 fl_X11_49 (pc := 48) dX11_line_48 rfl rfl rfl ?_
         refine go_callV ml_X11_127 mt_X2_miles (pc := 51) dX11_line_51 (c_X2_miles rfl hC5.2.2.2.2.2.1) rfl rfl rfl (by decide) (by decide) rfl rfl (Nat.le_of_ble_eq_true rfl) (fun r σ' hp => ?_)
         obtain ⟨rfl, hσ⟩ := hp
         rw [hσ]
         clear hσ σ'
         dsimp only [zRet]
         refine go_goto 60 (pc := 54) dX11_line_54 (by decide) ?_
         refine go_ireturn (pc := 60) dX11_line_60 rfl ?_
         exact ⟨rfl, hC5, (Fr33.of hfA (by simp)).tr (Fr33.of (FrG.rf.uS (S := [1]) (by simp)) (by simp))⟩)
      | (refine go_icmp_ne 57 (pc := 44) dX11_line_44 (by decide) (fun h44 => ?_) (fun h44 => ?_)
         · refine go_iconst (-1) (pc := 57) dX11_line_57 (by decide) ?_
           refine go_iload_n (i := 1) (pc := 58) dX11_line_58 rfl rfl ?_
           refine go_isub (pc := 59) dX11_line_59 ?_
           refine go_ireturn (pc := 60) dX11_line_60 rfl ?_
           exact ⟨rfl, hC5, (Fr33.of hfA (by simp)).tr (Fr33.of (FrG.rf.uS (S := [1]) (by simp)) (by simp))⟩
         · exfalso
           rw [zi_eq, nI_toInt hq31, zm1] at h44
           omega)

