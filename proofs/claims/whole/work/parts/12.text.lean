/-! THE TEXT of the class: its length and signs -/
def TextIs (σ : zT) (L : Nat) (f : Nat → Nat) : Prop := σ.1 1 1 = nI L ∧ L ≤ 80 ∧ ∀ i, i < 80 → σ.2.1 1 1 i = nI (f i) ∧ f i < 256
def tAt (L : Nat) (f : Nat → Nat) (i : Nat) : Int32 := if i < L then nI (f i) else -1
/-- how many digits stand from a on, below lim, at most m -/
def tDig (f : Nat → Nat) (lim : Nat) : Nat → Nat → Nat
  | _, 0 => 0
  | a, m + 1 => if a < lim ∧ 48 ≤ f a ∧ f a ≤ 57 then tDig f lim (a + 1) m + 1 else 0
theorem tDig_le (f : Nat → Nat) (lim a m : Nat) : tDig f lim a m ≤ m := by
  induction m generalizing a with
  | zero => exact Nat.le_refl 0
  | succ m ih => unfold tDig; split; exact Nat.succ_le_succ (ih _); omega
/-- the number that n digits from a on tell, after v -/
def tNum (f : Nat → Nat) : Nat → Nat → Nat → Nat
  | _, 0, v => v
  | a, n + 1, v => tNum f (a + 1) n (10 * v + (f a - 48))
/-- the text with four signs of v behind it -/
def tPut (f : Nat → Nat) (L : Nat) (v : Int32) (i : Nat) : Nat := if L ≤ i ∧ i < L + 4 then v.toBitVec.toNat / 2 ^ (24 - 8 * (i - L)) % 256 else f i
/-- sign i of v -/
theorem tSgn {v : Int32} (i : Nat) (hi : i < 4) : (v.toUInt32 >>> ((nI (24 - 8 * i)).toUInt32 &&& Int32.toUInt32 31)).toInt32 &&& nI 255 = nI (v.toBitVec.toNat / 2 ^ (24 - 8 * i) % 256) := by
  have hs : ∀ i : Nat, i < 4 → (((nI (24 - 8 * i)).toUInt32 &&& Int32.toUInt32 31).toBitVec % 32).toNat = 24 - 8 * i := by decide
  rw [pk_and _ 8 (by decide), pk_ushr _ _ _ (hs i hi)]

theorem c_X11_isDigit {E : zE} {σ : zT} {v : Int32}  : CalM E 0 yX11_isDigit cX11_isDigit 1 (some .boolean) [.int v] σ (fun r σ' => r = some (.int (zb (decide (48 ≤ v.toInt ∧ v.toInt ≤ 57)))) ∧ σ' = σ) := by
  refine cal_of_go (own := RX11) rfl (by decide +kernel) (Nat.le_of_ble_eq_true rfl) ?_
  refine go_iload_n (i := 0) (pc := 0) dX11_isDigit_0 rfl rfl ?_
  refine go_bipush (nI 48) (pc := 1) dX11_isDigit_1 (by decide) ?_
  refine go_icmp_lt 16 (pc := 3) dX11_isDigit_3 (by decide) (fun h3 => ?_) (fun h3 => ?_)
  · first | rw [nI_ltI (by omega) (by omega)] at h3 | rw [zi_ltN (by omega)] at h3 | rw [zi_Nlt (by omega)] at h3 | rw [zi_lt] at h3
    refine go_iconst (nI 0) (pc := 16) dX11_isDigit_16 (by decide) ?_
    refine go_zreturn (pc := 17) dX11_isDigit_17 rfl (by first | rfl | (apply zb_nar)) ?_
    first | exact ⟨zr_f (by omega), rfl⟩ | exact ⟨zr_t (by omega), rfl⟩
  · first | rw [nI_ltI (by omega) (by omega)] at h3 | rw [zi_ltN (by omega)] at h3 | rw [zi_Nlt (by omega)] at h3 | rw [zi_lt] at h3
    refine go_iload_n (i := 0) (pc := 6) dX11_isDigit_6 rfl rfl ?_
    refine go_bipush (nI 57) (pc := 7) dX11_isDigit_7 (by decide) ?_
    refine go_icmp_gt 16 (pc := 9) dX11_isDigit_9 (by decide) (fun h9 => ?_) (fun h9 => ?_)
    · first | rw [nI_ltI (by omega) (by omega)] at h9 | rw [zi_ltN (by omega)] at h9 | rw [zi_Nlt (by omega)] at h9 | rw [zi_lt] at h9
      refine go_iconst (nI 0) (pc := 16) dX11_isDigit_16 (by decide) ?_
      refine go_zreturn (pc := 17) dX11_isDigit_17 rfl (by first | rfl | (apply zb_nar)) ?_
      first | exact ⟨zr_f (by omega), rfl⟩ | exact ⟨zr_t (by omega), rfl⟩
    · first | rw [nI_ltI (by omega) (by omega)] at h9 | rw [zi_ltN (by omega)] at h9 | rw [zi_Nlt (by omega)] at h9 | rw [zi_lt] at h9
      refine go_iconst (nI 1) (pc := 12) dX11_isDigit_12 (by decide) ?_
      refine go_goto 17 (pc := 13) dX11_isDigit_13 (by decide) ?_
      refine go_zreturn (pc := 17) dX11_isDigit_17 rfl (by first | rfl | (apply zb_nar)) ?_
      first | exact ⟨zr_f (by omega), rfl⟩ | exact ⟨zr_t (by omega), rfl⟩

theorem c_X11_within {E : zE} {σ : zT} {v : Int32} {m : Nat} (hm : m < 2 ^ 31) : CalM E 0 yX11_within cX11_within 2 (some .int) [.int v, .int (nI m)] σ (fun r σ' => r = some (.int (nI (clp v m))) ∧ σ' = σ) := by
  refine cal_of_go (own := RX11) rfl (by decide +kernel) (Nat.le_of_ble_eq_true rfl) ?_
  rw [← clp_eq hm]
  refine go_iload_n (i := 0) (pc := 0) dX11_within_0 rfl rfl ?_
  refine go_if_ge 8 (pc := 1) dX11_within_1 (by decide) (fun h1 => ?_) (fun h1 => ?_)
  · first | rw [zb_0d] at h1 | rw [zn_ge0 (by omega)] at h1 | rw [zi_ge0] at h1
    refine go_iload_n (i := 0) (pc := 8) dX11_within_8 rfl rfl ?_
    refine go_iload_n (i := 1) (pc := 9) dX11_within_9 rfl rfl ?_
    refine go_icmp_le 17 (pc := 10) dX11_within_10 (by decide) (fun h10 => ?_) (fun h10 => ?_)
    · first | rw [nI_leI (by omega) (by omega)] at h10 | rw [zi_leN (by omega)] at h10 | rw [zi_Nle (by omega)] at h10 | rw [zi_le] at h10
      refine go_iload_n (i := 0) (pc := 17) dX11_within_17 rfl rfl ?_
      refine go_ireturn (pc := 18) dX11_within_18 rfl ?_
      first | exact ⟨by rw [if_pos (by omega)], rfl⟩ | exact ⟨by rw [if_neg (by omega), if_pos (by omega)], rfl⟩ | exact ⟨by rw [if_neg (by omega), if_neg (by omega)], rfl⟩
    · first | rw [nI_leI (by omega) (by omega)] at h10 | rw [zi_leN (by omega)] at h10 | rw [zi_Nle (by omega)] at h10 | rw [zi_le] at h10
      refine go_iload_n (i := 1) (pc := 13) dX11_within_13 rfl rfl ?_
      refine go_goto 18 (pc := 14) dX11_within_14 (by decide) ?_
      refine go_ireturn (pc := 18) dX11_within_18 rfl ?_
      first | exact ⟨by rw [if_pos (by omega)], rfl⟩ | exact ⟨by rw [if_neg (by omega), if_pos (by omega)], rfl⟩ | exact ⟨by rw [if_neg (by omega), if_neg (by omega)], rfl⟩
  · first | rw [zb_0d] at h1 | rw [zn_ge0 (by omega)] at h1 | rw [zi_ge0] at h1
    refine go_iconst (nI 0) (pc := 4) dX11_within_4 (by decide) ?_
    refine go_goto 18 (pc := 5) dX11_within_5 (by decide) ?_
    refine go_ireturn (pc := 18) dX11_within_18 rfl ?_
    first | exact ⟨by rw [if_pos (by omega)], rfl⟩ | exact ⟨by rw [if_neg (by omega), if_pos (by omega)], rfl⟩ | exact ⟨by rw [if_neg (by omega), if_neg (by omega)], rfl⟩

theorem c_X8_size {E : zE} {σ : zT} {L : Nat} {f : Nat → Nat} (hT : TextIs σ L f) : CalM E 0 yX8_size cX8_size 1 (some .int) [.ref (zA E 1 0)] σ (fun r σ' => r = some (.int (nI L)) ∧ σ' = σ) := by
  refine cal_of_go (own := RX8) rfl (by decide +kernel) (Nat.le_of_ble_eq_true rfl) ?_
  refine go_aload_n (i := 0) (pc := 0) dX8_size_0 rfl rfl ?_
  refine go_geti fl_X8_15 (pc := 1) dX8_size_1 (by first | rfl | (apply zL_fi <;> first | assumption | decide) | (apply zR_fi <;> first | assumption | decide)) ?_
  rw [hT.1]
  refine go_ireturn (pc := 4) dX8_size_4 rfl ?_
  exact ⟨rfl, rfl⟩

theorem c_X8_at {E : zE} {σ : zT} {L i : Nat} {f : Nat → Nat} (hT : TextIs σ L f) (hi : i < 2 ^ 30) : CalM E 0 yX8_at cX8_at 2 (some .int) [.ref (zA E 1 0), .int (nI i)] σ (fun r σ' => r = some (.int (tAt L f i)) ∧ σ' = σ) := by
  refine cal_of_go (own := RX8) rfl (by decide +kernel) (Nat.le_of_ble_eq_true rfl) ?_
  have hL := hT.2.1
  refine go_iload_n (i := 1) (pc := 0) dX8_at_0 rfl rfl ?_
  refine go_if_lt 30 (pc := 1) dX8_at_1 (by decide) (fun h1 => ?_) (fun h1 => ?_)
  · first | rw [zb_0d] at h1 | rw [zn_lt0 (by omega)] at h1 | rw [zi_lt0] at h1
    refine go_iconst (-1) (pc := 30) dX8_at_30 (by decide) ?_
    refine go_ireturn (pc := 31) dX8_at_31 rfl ?_
    refine ⟨?_, rfl⟩
    unfold tAt
    split <;> first | rfl | (exfalso; omega) | contradiction
  · first | rw [zb_0d] at h1 | rw [zn_lt0 (by omega)] at h1 | rw [zi_lt0] at h1
    refine go_iload_n (i := 1) (pc := 4) dX8_at_4 rfl rfl ?_
    refine go_aload_n (i := 0) (pc := 5) dX8_at_5 rfl rfl ?_
    refine go_geti fl_X8_15 (pc := 6) dX8_at_6 (by first | rfl | (apply zL_fi <;> first | assumption | decide) | (apply zR_fi <;> first | assumption | decide)) ?_
    rw [hT.1]
    refine go_icmp_ge 30 (pc := 9) dX8_at_9 (by decide) (fun h9 => ?_) (fun h9 => ?_)
    · first | rw [nI_leI (by omega) (by omega)] at h9 | rw [zi_leN (by omega)] at h9 | rw [zi_Nle (by omega)] at h9 | rw [zi_le] at h9
      refine go_iconst (-1) (pc := 30) dX8_at_30 (by decide) ?_
      refine go_ireturn (pc := 31) dX8_at_31 rfl ?_
      refine ⟨?_, rfl⟩
      unfold tAt
      split <;> first | rfl | (exfalso; omega) | contradiction
    · first | rw [nI_leI (by omega) (by omega)] at h9 | rw [zi_leN (by omega)] at h9 | rw [zi_Nle (by omega)] at h9 | rw [zi_le] at h9
      refine go_iload_n (i := 1) (pc := 12) dX8_at_12 rfl rfl ?_
      refine go_aload_n (i := 0) (pc := 13) dX8_at_13 rfl rfl ?_
      refine go_getr2 fl_X8_9 (pc := 14) dX8_at_14 (by first | rfl | (apply zL_ci <;> assumption) | (apply zR_ci <;> assumption)) (by first | rfl | (apply zL_in <;> first | assumption | decide) | (apply zR_in <;> first | assumption | decide)) (by first | rfl | (apply zL_fr0 <;> assumption) | (apply zL_fr1 <;> assumption) | (apply zR_fr0 <;> assumption) | (apply zR_fr1 <;> assumption) | (apply zR_fr2 <;> assumption) | (apply zR_fr3 <;> assumption)) ?_
      refine go_alen (pc := 17) dX8_at_17 (by first | rfl | (apply zL_ar1 <;> assumption) | (apply zL_ar2 <;> assumption) | (apply zR_ar1 <;> assumption) | (apply zR_ar2 <;> assumption) | (apply zR_ar3 <;> assumption) | (apply zR_ar4 <;> assumption)) (by first | rfl | (apply zL_jn <;> first | assumption | decide) | (apply zR_jn <;> first | assumption | decide)) ?_
      refine go_icmp_ge 30 (pc := 18) dX8_at_18 (by decide) (fun h18 => ?_) (fun h18 => ?_)
      · first | rw [nI_leI (by omega) (by omega)] at h18 | rw [zi_leN (by omega)] at h18 | rw [zi_Nle (by omega)] at h18 | rw [zi_le] at h18
        refine go_iconst (-1) (pc := 30) dX8_at_30 (by decide) ?_
        refine go_ireturn (pc := 31) dX8_at_31 rfl ?_
        refine ⟨?_, rfl⟩
        unfold tAt
        split <;> first | rfl | (exfalso; omega) | contradiction
      · first | rw [nI_leI (by omega) (by omega)] at h18 | rw [zi_leN (by omega)] at h18 | rw [zi_Nle (by omega)] at h18 | rw [zi_le] at h18
        refine go_aload_n (i := 0) (pc := 21) dX8_at_21 rfl rfl ?_
        refine go_getr2 fl_X8_9 (pc := 22) dX8_at_22 (by first | rfl | (apply zL_ci <;> assumption) | (apply zR_ci <;> assumption)) (by first | rfl | (apply zL_in <;> first | assumption | decide) | (apply zR_in <;> first | assumption | decide)) (by first | rfl | (apply zL_fr0 <;> assumption) | (apply zL_fr1 <;> assumption) | (apply zR_fr0 <;> assumption) | (apply zR_fr1 <;> assumption) | (apply zR_fr2 <;> assumption) | (apply zR_fr3 <;> assumption)) ?_
        refine go_iload_n (i := 1) (pc := 25) dX8_at_25 rfl rfl ?_
        refine go_iaload i dX8_at_26 rfl rfl rfl (by omega) ?_
        rw [(hT.2.2 i (by omega)).1]
        refine go_goto 31 (pc := 27) dX8_at_27 (by decide) ?_
        refine go_ireturn (pc := 31) dX8_at_31 rfl ?_
        refine ⟨?_, rfl⟩
        unfold tAt
        split <;> first | rfl | (exfalso; omega) | contradiction

theorem c_X8_cut {E : zE} {σ : zT} {L : Nat} {f : Nat → Nat} {n : Int32} (hT : TextIs σ L f) : CalM E 0 yX8_cut cX8_cut 2 (some .boolean) [.ref (zA E 1 0), .int n] σ (fun r σ' => r = some (.int (zb (decide (0 ≤ n.toInt ∧ n.toInt ≤ (L : Int))))) ∧ σ' = if 0 ≤ n.toInt ∧ n.toInt ≤ (L : Int) then uS σ 1 1 n else σ) := by
  refine cal_of_go (own := RX8) rfl (by decide +kernel) (Nat.le_of_ble_eq_true rfl) ?_
  have hL := hT.2.1
  refine go_iload_n (i := 1) (pc := 0) dX8_cut_0 rfl rfl ?_
  refine go_if_lt 12 (pc := 1) dX8_cut_1 (by decide) (fun h1 => ?_) (fun h1 => ?_)
  · first | rw [zb_0d] at h1 | rw [zn_lt0 (by omega)] at h1 | rw [zi_lt0] at h1
    refine go_iconst (nI 0) (pc := 12) dX8_cut_12 (by decide) ?_
    refine go_zreturn (pc := 13) dX8_cut_13 rfl (by first | rfl | (apply zb_nar)) ?_
    first | exact ⟨zr_f (by omega), by rw [if_neg (by omega)]⟩ | exact ⟨zr_t (by omega), by rw [if_pos (by omega)]⟩
  · first | rw [zb_0d] at h1 | rw [zn_lt0 (by omega)] at h1 | rw [zi_lt0] at h1
    refine go_iload_n (i := 1) (pc := 4) dX8_cut_4 rfl rfl ?_
    refine go_aload_n (i := 0) (pc := 5) dX8_cut_5 rfl rfl ?_
    refine go_geti fl_X8_15 (pc := 6) dX8_cut_6 (by first | rfl | (apply zL_fi <;> first | assumption | decide) | (apply zR_fi <;> first | assumption | decide)) ?_
    rw [hT.1]
    refine go_icmp_le 14 (pc := 9) dX8_cut_9 (by decide) (fun h9 => ?_) (fun h9 => ?_)
    · first | rw [nI_leI (by omega) (by omega)] at h9 | rw [zi_leN (by omega)] at h9 | rw [zi_Nle (by omega)] at h9 | rw [zi_le] at h9
      refine go_aload_n (i := 0) (pc := 14) dX8_cut_14 rfl rfl ?_
      refine go_iload_n (i := 1) (pc := 15) dX8_cut_15 rfl rfl ?_
      refine go_puti fp_X8_15 (pc := 16) dX8_cut_16 (by first | rfl | (apply zL_fi <;> first | assumption | decide) | (apply zR_fi <;> first | assumption | decide)) rfl rfl ?_
      refine go_iconst (nI 1) (pc := 19) dX8_cut_19 (by decide) ?_
      refine go_zreturn (pc := 20) dX8_cut_20 rfl (by first | rfl | (apply zb_nar)) ?_
      first | exact ⟨zr_f (by omega), by rw [if_neg (by omega)]⟩ | exact ⟨zr_t (by omega), by rw [if_pos (by omega)]⟩
    · first | rw [nI_leI (by omega) (by omega)] at h9 | rw [zi_leN (by omega)] at h9 | rw [zi_Nle (by omega)] at h9 | rw [zi_le] at h9
      refine go_iconst (nI 0) (pc := 12) dX8_cut_12 (by decide) ?_
      refine go_zreturn (pc := 13) dX8_cut_13 rfl (by first | rfl | (apply zb_nar)) ?_
      first | exact ⟨zr_f (by omega), by rw [if_neg (by omega)]⟩ | exact ⟨zr_t (by omega), by rw [if_pos (by omega)]⟩

theorem c_X8_clear {E : zE} {σ : zT}   : CalM E 0 yX8_clear cX8_clear 1 none [.ref (zA E 1 0)] σ (fun r σ' => r = none ∧ σ' = uS σ 1 1 (nI 0)) := by
  refine cal_of_go (own := RX8) rfl (by decide +kernel) (Nat.le_of_ble_eq_true rfl) ?_
  refine go_aload_n (i := 0) (pc := 0) dX8_clear_0 rfl rfl ?_
  refine go_iconst (nI 0) (pc := 1) dX8_clear_1 (by decide) ?_
  refine go_puti fp_X8_15 (pc := 2) dX8_clear_2 (by first | rfl | (apply zL_fi <;> first | assumption | decide) | (apply zR_fi <;> first | assumption | decide)) rfl rfl ?_
  refine go_return (pc := 5) dX8_clear_5 rfl ?_
  exact ⟨rfl, rfl⟩

theorem c_X8_digits {E : zE} {σ : zT} {L a m lim : Nat} {f : Nat → Nat} (hT : TextIs σ L f) (ha : a < 1000) (hm : m < 1000) (hl : lim ≤ L) : CalM E 1 yX8_digits cX8_digits 5 (some .int) [.ref (zA E 1 0), .int (nI a), .int (nI m), .int (nI lim)] σ (fun r σ' => r = some (.int (nI (tDig f lim a m))) ∧ σ' = σ) := by
  refine cal_of_go (own := RX8) rfl (by decide +kernel) (Nat.le_of_ble_eq_true rfl) ?_
  have hL := hT.2.1
  have loop : ∀ i : Nat, i ≤ m → tDig f lim a m = i + tDig f lim (a + i) (m - i) → GoM E 1 RX8 cX8_digits 5 (some .int) (fun r σ' => r = some (.int (nI (tDig f lim a m))) ∧ σ' = σ) σ 3 [(0, .ref (zA E 1 0)), (1, .int (nI a)), (2, .int (nI m)), (3, .int (nI lim)), (4, .int (nI i))] [] := by
    intro i
    induction hj : m - i using Nat.strongRecOn generalizing i with
    | ind j ih =>
      intro him hv
      refine go_iload (pc := 3) dX8_digits_3 rfl ?_
      refine go_iload_n (i := 2) (pc := 5) dX8_digits_5 rfl rfl ?_
      refine go_icmp_ge 37 (pc := 6) dX8_digits_6 (by decide) (fun h6 => ?_) (fun h6 => ?_)
      · first | rw [nI_leI (by omega) (by omega)] at h6 | rw [zi_leN (by omega)] at h6 | rw [zi_Nle (by omega)] at h6 | rw [zi_le] at h6
        have e : j = 0 := by omega
        subst e
        rw [tDig] at hv
        refine go_iload (pc := 37) dX8_digits_37 rfl ?_
        refine go_ireturn (pc := 39) dX8_digits_39 rfl ?_
        exact ⟨by simp [hv], rfl⟩
      · first | rw [nI_leI (by omega) (by omega)] at h6 | rw [zi_leN (by omega)] at h6 | rw [zi_Nle (by omega)] at h6 | rw [zi_le] at h6
        refine go_iload_n (i := 1) (pc := 9) dX8_digits_9 rfl rfl ?_
        refine go_iload (pc := 10) dX8_digits_10 rfl ?_
        first | with_reducible refine go_iaddN (pc := 12) dX8_digits_12 ?_ | refine go_iadd (pc := 12) dX8_digits_12 ?_
        refine go_iload_n (i := 3) (pc := 13) dX8_digits_13 rfl rfl ?_
        refine go_icmp_ge 37 (pc := 14) dX8_digits_14 (by decide) (fun h14 => ?_) (fun h14 => ?_)
        · first | rw [nI_leI (by omega) (by omega)] at h14 | rw [zi_leN (by omega)] at h14 | rw [zi_Nle (by omega)] at h14 | rw [zi_le] at h14
          have e : j = j - 1 + 1 := by omega
          rw [e, tDig, if_neg (by omega)] at hv
          refine go_iload (pc := 37) dX8_digits_37 rfl ?_
          refine go_ireturn (pc := 39) dX8_digits_39 rfl ?_
          exact ⟨by simp [hv], rfl⟩
        · first | rw [nI_leI (by omega) (by omega)] at h14 | rw [zi_leN (by omega)] at h14 | rw [zi_Nle (by omega)] at h14 | rw [zi_le] at h14
          refine go_aload_n (i := 0) (pc := 17) dX8_digits_17 rfl rfl ?_
          refine go_iload_n (i := 1) (pc := 18) dX8_digits_18 rfl rfl ?_
          refine go_iload (pc := 19) dX8_digits_19 rfl ?_
          first | with_reducible refine go_iaddN (pc := 21) dX8_digits_21 ?_ | refine go_iadd (pc := 21) dX8_digits_21 ?_
          refine go_callV ml_X8_19 mt_X8_at (pc := 22) dX8_digits_22 (c_X8_at hT (i := a + i) (by omega)) (by first | rfl | (apply zL_cq <;> assumption) | (apply zR_cq <;> assumption)) rfl (by first | rfl | (apply zL_in <;> first | assumption | decide) | (apply zR_in <;> first | assumption | decide)) (by decide) (by decide) rfl rfl (Nat.le_of_ble_eq_true rfl) (fun r σ' hp => ?_)
          obtain ⟨rfl, hσ⟩ := hp
          rw [hσ]
          clear hσ σ'
          dsimp only [zRet]
          refine go_callN (fun _ h => h.2.2.1) mt_X11_isDigit (pc := 25) dX8_digits_25 (c_X11_isDigit) (by decide) (by decide) rfl rfl (Nat.le_of_ble_eq_true rfl) (fun r σ' hp => ?_)
          obtain ⟨rfl, hσ⟩ := hp
          rw [hσ]
          clear hσ σ'
          dsimp only [zRet]
          refine go_if_eq 37 (pc := 28) dX8_digits_28 (by decide) (fun h28 => ?_) (fun h28 => ?_)
          · first | rw [zb_0d] at h28 | rw [zn_eq0 (by omega)] at h28 | rw [zi_eq0] at h28
            have hf := hT.2.2 (a + i) (by omega)
            rw [tAt, if_pos (by omega), nI_toInt (by omega)] at h28
            have e : j = j - 1 + 1 := by omega
            rw [e, tDig, if_neg (by omega)] at hv
            refine go_iload (pc := 37) dX8_digits_37 rfl ?_
            refine go_ireturn (pc := 39) dX8_digits_39 rfl ?_
            exact ⟨by simp [hv], rfl⟩
          · first | rw [zb_0d] at h28 | rw [zn_eq0 (by omega)] at h28 | rw [zi_eq0] at h28
            have hf := hT.2.2 (a + i) (by omega)
            rw [tAt, if_pos (by omega), nI_toInt (by omega)] at h28
            have e : j = j - 1 + 1 := by omega
            rw [e, tDig, if_pos (by omega)] at hv
            refine go_iincN (pc := 31) dX8_digits_31 rfl (by decide) ?_
            refine go_goto 3 (pc := 34) dX8_digits_34 (by decide) ?_
            exact ih (j - 1) (by omega) (i + 1) (by omega) (by omega) (by rw [hv, Nat.add_assoc a i 1]; omega)
  refine go_iconst (nI 0) (pc := 0) dX8_digits_0 (by decide) ?_
  refine go_istore (pc := 1) dX8_digits_1 (by decide) ?_
  exact loop 0 (by omega) (by simp)

theorem c_X8_number {E : zE} {σ : zT} {L a n : Nat} {f : Nat → Nat} (hT : TextIs σ L f) (hn : n ≤ 3) (ha : a + n ≤ L) (hd : ∀ i, i < n → 48 ≤ f (a + i) ∧ f (a + i) ≤ 57) : CalM E 1 yX8_number cX8_number 5 (some .int) [.ref (zA E 1 0), .int (nI a), .int (nI n)] σ (fun r σ' => r = some (.int (nI (tNum f a n 0))) ∧ σ' = σ) := by
  refine cal_of_go (own := RX8) rfl (by decide +kernel) (Nat.le_of_ble_eq_true rfl) ?_
  have hL := hT.2.1
  have loop : ∀ (i v : Nat), i ≤ n → ((i = 0 → v = 0) ∧ (i ≤ 1 → v ≤ 9) ∧ (i ≤ 2 → v ≤ 99) ∧ v ≤ 999) → tNum f a n 0 = tNum f (a + i) (n - i) v → GoM E 1 RX8 cX8_number 5 (some .int) (fun r σ' => r = some (.int (nI (tNum f a n 0))) ∧ σ' = σ) σ 5 [(0, .ref (zA E 1 0)), (1, .int (nI a)), (2, .int (nI n)), (3, .int (nI v)), (4, .int (nI i))] [] := by
    intro i
    induction hj : n - i using Nat.strongRecOn generalizing i with
    | ind j ih =>
      intro v him hv20 hv
      refine go_iload (pc := 5) dX8_number_5 rfl ?_
      refine go_iload_n (i := 2) (pc := 7) dX8_number_7 rfl rfl ?_
      refine go_icmp_ge 34 (pc := 8) dX8_number_8 (by decide) (fun h8 => ?_) (fun h8 => ?_)
      · first | rw [nI_leI (by omega) (by omega)] at h8 | rw [zi_leN (by omega)] at h8 | rw [zi_Nle (by omega)] at h8 | rw [zi_le] at h8
        have e : j = 0 := by omega
        subst e
        rw [tNum] at hv
        refine go_iload_n (i := 3) (pc := 34) dX8_number_34 rfl rfl ?_
        refine go_ireturn (pc := 35) dX8_number_35 rfl ?_
        exact ⟨by simp [hv], rfl⟩
      · first | rw [nI_leI (by omega) (by omega)] at h8 | rw [zi_leN (by omega)] at h8 | rw [zi_Nle (by omega)] at h8 | rw [zi_le] at h8
        refine go_bipush (nI 10) (pc := 11) dX8_number_11 (by decide) ?_
        refine go_iload_n (i := 3) (pc := 13) dX8_number_13 rfl rfl ?_
        first | with_reducible refine go_imulN (pc := 14) dX8_number_14 ?_ | refine go_imul (pc := 14) dX8_number_14 ?_
        refine go_aload_n (i := 0) (pc := 15) dX8_number_15 rfl rfl ?_
        refine go_iload_n (i := 1) (pc := 16) dX8_number_16 rfl rfl ?_
        refine go_iload (pc := 17) dX8_number_17 rfl ?_
        first | with_reducible refine go_iaddN (pc := 19) dX8_number_19 ?_ | refine go_iadd (pc := 19) dX8_number_19 ?_
        refine go_callV ml_X8_19 mt_X8_at (pc := 20) dX8_number_20 (c_X8_at hT (i := a + i) (by omega)) (by first | rfl | (apply zL_cq <;> assumption) | (apply zR_cq <;> assumption)) rfl (by first | rfl | (apply zL_in <;> first | assumption | decide) | (apply zR_in <;> first | assumption | decide)) (by decide) (by decide) rfl rfl (Nat.le_of_ble_eq_true rfl) (fun r σ' hp => ?_)
        obtain ⟨rfl, hσ⟩ := hp
        rw [hσ]
        clear hσ σ'
        dsimp only [zRet]
        have hf := hd i (by omega)
        rw [tAt, if_pos (by omega)]
        first | with_reducible refine go_iaddN (pc := 23) dX8_number_23 ?_ | refine go_iadd (pc := 23) dX8_number_23 ?_
        refine go_bipush (nI 48) (pc := 24) dX8_number_24 (by decide) ?_
        first | with_reducible refine go_isubN (pc := 26) dX8_number_26 (by omega) ?_ | refine go_isub (pc := 26) dX8_number_26 ?_
        refine go_istore_n (i := 3) (pc := 27) dX8_number_27 rfl (by decide) ?_
        refine go_iincN (pc := 28) dX8_number_28 rfl (by decide) ?_
        refine go_goto 5 (pc := 31) dX8_number_31 (by decide) ?_
        have e : j = j - 1 + 1 := by omega
        rw [e, tNum] at hv
        exact ih (j - 1) (by omega) (i + 1) (by omega) _ (by omega) (by omega) (by rw [hv, show 10 * v + f (a + i) - 48 = 10 * v + (f (a + i) - 48) by omega]; rfl)
  refine go_iconst (nI 0) (pc := 0) dX8_number_0 (by decide) ?_
  refine go_istore_n (i := 3) (pc := 1) dX8_number_1 rfl (by decide) ?_
  refine go_iconst (nI 0) (pc := 2) dX8_number_2 (by decide) ?_
  refine go_istore (pc := 3) dX8_number_3 (by decide) ?_
  exact loop 0 0 (by omega) (by omega) (by simp)

theorem c_X8_take {E : zE} {σ : zT} {L : Nat} {f : Nat → Nat} {v : Int32} (hT : TextIs σ L f) : CalM E 0 yX8_take cX8_take 3 (some .boolean) [.ref (zA E 1 0), .int v] σ (fun r σ' => r = some (.int (zb (decide (L + 4 ≤ 80)))) ∧ (if L + 4 ≤ 80 then ∃ g, σ' = uS (uA σ 1 1 g) 1 1 (nI (L + 4)) ∧ ∀ i, i < 80 → g i = nI (tPut f L v i) else σ' = σ)) := by
  refine cal_of_go (own := RX8) rfl (by decide +kernel) (Nat.le_of_ble_eq_true rfl) ?_
  have hL := hT.2.1
  have loop : ∀ (i : Nat) (g : Nat → Int32), i ≤ 4 → L + 4 ≤ 80 → (∀ q, q < 80 → g q = if L ≤ q ∧ q < L + i then nI (tPut f L v q) else nI (f q)) → GoM E 0 RX8 cX8_take 3 (some .boolean) (fun r σ' => r = some (.int (zb (decide (L + 4 ≤ 80)))) ∧ (if L + 4 ≤ 80 then ∃ g, σ' = uS (uA σ 1 1 g) 1 1 (nI (L + 4)) ∧ ∀ i, i < 80 → g i = nI (tPut f L v i) else σ' = σ)) (uA σ 1 1 g) 25 [(0, .ref (zA E 1 0)), (1, .int v), (2, .int (nI i))] [] := by
    intro i
    induction hj : 4 - i using Nat.strongRecOn generalizing i with
    | ind j ih =>
      intro g hi h80 hg
      have e1 : (uA σ 1 1 g).1 1 1 = nI L := hT.1
      refine go_iload_n (i := 2) (pc := 25) dX8_take_25 rfl rfl ?_
      refine go_iconst (nI 4) (pc := 26) dX8_take_26 (by decide) ?_
      refine go_icmp_ge 60 (pc := 27) dX8_take_27 (by decide) (fun h27 => ?_) (fun h27 => ?_)
      · first | rw [nI_leI (by omega) (by omega)] at h27 | rw [zi_leN (by omega)] at h27 | rw [zi_Nle (by omega)] at h27 | rw [zi_le] at h27
        refine go_aload_n (i := 0) (pc := 60) dX8_take_60 rfl rfl ?_
        refine go_dup (pc := 61) dX8_take_61 rfl ?_
        refine go_geti fl_X8_15 (pc := 62) dX8_take_62 (by first | rfl | (apply zL_fi <;> first | assumption | decide) | (apply zR_fi <;> first | assumption | decide)) ?_
        rw [e1]
        refine go_iconst (nI 4) (pc := 65) dX8_take_65 (by decide) ?_
        first | with_reducible refine go_iaddN (pc := 66) dX8_take_66 ?_ | refine go_iadd (pc := 66) dX8_take_66 ?_
        refine go_puti fp_X8_15 (pc := 67) dX8_take_67 (by first | rfl | (apply zL_fi <;> first | assumption | decide) | (apply zR_fi <;> first | assumption | decide)) rfl rfl ?_
        refine go_iconst (nI 1) (pc := 70) dX8_take_70 (by decide) ?_
        refine go_zreturn (pc := 71) dX8_take_71 rfl (by first | rfl | (apply zb_nar)) ?_
        refine ⟨zr_t h80, ?_⟩
        rw [if_pos h80]
        refine ⟨g, rfl, fun q hq => ?_⟩
        rw [hg q hq]
        by_cases e : L ≤ q ∧ q < L + i
        · rw [if_pos e]
        · rw [if_neg e, tPut, if_neg (by omega)]
      · first | rw [nI_leI (by omega) (by omega)] at h27 | rw [zi_leN (by omega)] at h27 | rw [zi_Nle (by omega)] at h27 | rw [zi_le] at h27
        refine go_aload_n (i := 0) (pc := 30) dX8_take_30 rfl rfl ?_
        refine go_getr2 fl_X8_9 (pc := 31) dX8_take_31 (by first | rfl | (apply zL_ci <;> assumption) | (apply zR_ci <;> assumption)) (by first | rfl | (apply zL_in <;> first | assumption | decide) | (apply zR_in <;> first | assumption | decide)) (by first | rfl | (apply zL_fr0 <;> assumption) | (apply zL_fr1 <;> assumption) | (apply zR_fr0 <;> assumption) | (apply zR_fr1 <;> assumption) | (apply zR_fr2 <;> assumption) | (apply zR_fr3 <;> assumption)) ?_
        refine go_aload_n (i := 0) (pc := 34) dX8_take_34 rfl rfl ?_
        refine go_geti fl_X8_15 (pc := 35) dX8_take_35 (by first | rfl | (apply zL_fi <;> first | assumption | decide) | (apply zR_fi <;> first | assumption | decide)) ?_
        rw [e1]
        refine go_iload_n (i := 2) (pc := 38) dX8_take_38 rfl rfl ?_
        first | with_reducible refine go_iaddN (pc := 39) dX8_take_39 ?_ | refine go_iadd (pc := 39) dX8_take_39 ?_
        refine go_iload_n (i := 1) (pc := 40) dX8_take_40 rfl rfl ?_
        refine go_bipush (nI 24) (pc := 41) dX8_take_41 (by decide) ?_
        refine go_bipush (nI 8) (pc := 43) dX8_take_43 (by decide) ?_
        refine go_iload_n (i := 2) (pc := 45) dX8_take_45 rfl rfl ?_
        first | with_reducible refine go_imulN (pc := 46) dX8_take_46 ?_ | refine go_imul (pc := 46) dX8_take_46 ?_
        refine go_isubN dX8_take_47 (by omega) ?_
        refine go_iushr (pc := 48) dX8_take_48 ?_
        refine go_sipush (nI 255) (pc := 49) dX8_take_49 (by decide) ?_
        refine go_iand (pc := 52) dX8_take_52 ?_
        refine go_iastore (L + i) dX8_take_53 rfl rfl rfl (by omega) ?_
        rw [uA_uA, uA_s]
        refine go_iincN (pc := 54) dX8_take_54 rfl (by decide) ?_
        refine go_goto 25 (pc := 57) dX8_take_57 (by decide) ?_
        refine ih (4 - (i + 1)) (by omega) (i + 1) rfl _ (by omega) h80 (fun q hq => ?_)
        rw [upd_at]
        by_cases e : q = L + i
        · subst e
          rw [if_pos rfl, if_pos (by omega), tPut, if_pos (by omega), tSgn i (by omega), show L + i - L = i by omega]
        · rw [if_neg e, hg q hq]
          by_cases e2 : L ≤ q ∧ q < L + i
          · rw [if_pos e2, if_pos (by omega)]
          · rw [if_neg e2, if_neg (by omega)]
  refine go_aload_n (i := 0) (pc := 0) dX8_take_0 rfl rfl ?_
  refine go_geti fl_X8_15 (pc := 1) dX8_take_1 (by first | rfl | (apply zL_fi <;> first | assumption | decide) | (apply zR_fi <;> first | assumption | decide)) ?_
  rw [hT.1]
  refine go_if_lt 21 (pc := 4) dX8_take_4 (by decide) (fun h4 => ?_) (fun h4 => ?_)
  · first | rw [zb_0d] at h4 | rw [zn_lt0 (by omega)] at h4 | rw [zi_lt0] at h4
    exact h4.elim
  · first | rw [zb_0d] at h4 | rw [zn_lt0 (by omega)] at h4 | rw [zi_lt0] at h4
    refine go_aload_n (i := 0) (pc := 7) dX8_take_7 rfl rfl ?_
    refine go_geti fl_X8_15 (pc := 8) dX8_take_8 (by first | rfl | (apply zL_fi <;> first | assumption | decide) | (apply zR_fi <;> first | assumption | decide)) ?_
    rw [hT.1]
    refine go_iconst (nI 4) (pc := 11) dX8_take_11 (by decide) ?_
    first | with_reducible refine go_iaddN (pc := 12) dX8_take_12 ?_ | refine go_iadd (pc := 12) dX8_take_12 ?_
    refine go_aload_n (i := 0) (pc := 13) dX8_take_13 rfl rfl ?_
    refine go_getr2 fl_X8_9 (pc := 14) dX8_take_14 (by first | rfl | (apply zL_ci <;> assumption) | (apply zR_ci <;> assumption)) (by first | rfl | (apply zL_in <;> first | assumption | decide) | (apply zR_in <;> first | assumption | decide)) (by first | rfl | (apply zL_fr0 <;> assumption) | (apply zL_fr1 <;> assumption) | (apply zR_fr0 <;> assumption) | (apply zR_fr1 <;> assumption) | (apply zR_fr2 <;> assumption) | (apply zR_fr3 <;> assumption)) ?_
    refine go_alen (pc := 17) dX8_take_17 (by first | rfl | (apply zL_ar1 <;> assumption) | (apply zL_ar2 <;> assumption) | (apply zR_ar1 <;> assumption) | (apply zR_ar2 <;> assumption) | (apply zR_ar3 <;> assumption) | (apply zR_ar4 <;> assumption)) (by first | rfl | (apply zL_jn <;> first | assumption | decide) | (apply zR_jn <;> first | assumption | decide)) ?_
    refine go_icmp_le 23 (pc := 18) dX8_take_18 (by decide) (fun h18 => ?_) (fun h18 => ?_)
    · first | rw [nI_leI (by omega) (by omega)] at h18 | rw [zi_leN (by omega)] at h18 | rw [zi_Nle (by omega)] at h18 | rw [zi_le] at h18
      refine go_iconst (nI 0) (pc := 23) dX8_take_23 (by decide) ?_
      refine go_istore_n (i := 2) (pc := 24) dX8_take_24 rfl (by decide) ?_
      have h := loop 0 (σ.2.1 1 1) (by omega) (by omega) (fun q hq => by rw [if_neg (by omega)]; exact (hT.2.2 q hq).1)
      rw [uA_self] at h
      exact h
    · first | rw [nI_leI (by omega) (by omega)] at h18 | rw [zi_leN (by omega)] at h18 | rw [zi_Nle (by omega)] at h18 | rw [zi_le] at h18
      refine go_iconst (nI 0) (pc := 21) dX8_take_21 (by decide) ?_
      refine go_zreturn (pc := 22) dX8_take_22 rfl (by first | rfl | (apply zb_nar)) ?_
      exact ⟨zr_f (by omega), by rw [if_neg (by omega)]⟩

