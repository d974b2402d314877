theorem amA_no {ti : Nat} {f : Nat → Nat} {a lim : Nat} (h : ¬ a < lim) : amA ti f a lim = none := if_neg h
theorem amA_in {ti : Nat} {f : Nat → Nat} {a lim : Nat} (h : a < lim) : amA ti f a lim = am ti (f a) := if_pos h
theorem am_0 : ∀ v, v < 256 → am 0 v = if 48 ≤ v ∧ v ≤ 57 ∨ v = 71 then some (if v = 71 then 10 else v - 48) else none := by decide +kernel
theorem am_1 : ∀ v, v < 256 → am 1 v = if v = 102 ∨ v = 100 ∨ v = 114 ∨ v = 97 then some (wcC v) else none := by decide +kernel
theorem flt_n {r L : Nat} (h : flt r L = none) : r ≠ 0 ∧ L ≤ r := by
  unfold flt at h
  split at h
  · cases h
  · omega
theorem flt_s {r L q : Nat} (h : flt r L = some q) : q = r ∧ (r = 0 ∨ r < L) := by
  unfold flt at h
  split at h
  · cases h; exact ⟨rfl, by assumption⟩
  · cases h

theorem c_X12_readsSigns {E : zE} {σ : zT} {f : Nat → Nat} {L ti most : Nat} {ok : Nat → Bool} {val : Nat → Nat} (hT : TapeIs σ L f) (hti : ti < 8) (hm : most ≤ 20) (hok : ∀ i, i < 80 → am ti (f i) = if ok i = true then some (val i) else none) : CalM E 6 yX12_readsSigns cX12_readsSigns 3 (some .int) [.ref (zA E 33 0), .ref (zKs E ti), .int (nI most)] σ (fun r σ' => r = some (.int (match flt (rlU ok (min L most)) L with | none => nI 0 | some q => mF q)) ∧ σ'.1 33 20 = nI (rlU ok (min L most)) ∧ (∀ i, i < (rlU ok (min L most)) → σ'.2.1 33 10 i = nI (val i)) ∧ TapeIs σ' 0 f ∧ Fr9 [15, 16, 17, 18, 20] [10] σ σ') := by
  refine cal_of_go (own := RX12) rfl (by decide +kernel) (Nat.le_of_ble_eq_true rfl) ?_
  have hL := hT.2.1
  have hlb := zlen_b ti hti
  have fin : ∀ (i : Nat) (τ : zT), i ≤ 80 → (rlU ok (min L most)) = i → τ.1 33 20 = nI i → Cur τ f i L → (∀ j, j < i → τ.2.1 33 10 j = nI (val j)) → TapeIs τ 0 f → Fr9 [15, 16, 17, 18, 20] [10] σ τ → GoM E 6 RX12 cX12_readsSigns 3 (some .int) (fun r σ' => r = some (.int (match flt (rlU ok (min L most)) L with | none => nI 0 | some q => mF q)) ∧ σ'.1 33 20 = nI (rlU ok (min L most)) ∧ (∀ i, i < (rlU ok (min L most)) → σ'.2.1 33 10 i = nI (val i)) ∧ TapeIs σ' 0 f ∧ Fr9 [15, 16, 17, 18, 20] [10] σ σ') τ 55 [(0, .ref (zA E 33 0)), (1, .ref (zKs E ti)), (2, .int (nI most))] [] := by
    intro i τ hi hN h20 hK hR hTt hF
    refine go_aload_n (i := 0) (pc := 55) dX12_readsSigns_55 rfl rfl ?_
    refine go_geti fl_X12_169 (pc := 56) dX12_readsSigns_56 (by rfl) ?_
    rw [h20]
    refine go_if_eq 73 (pc := 59) dX12_readsSigns_59 (by decide) (fun h59 => ?_) (fun h59 => ?_)
    · first | rw [zb_0d] at h59 | rw [zn_eq0 (by omega)] at h59 | rw [zi_eq0] at h59
      refine go_iconst (-1) (pc := 73) dX12_readsSigns_73 (by decide) ?_
      refine go_aload_n (i := 0) (pc := 74) dX12_readsSigns_74 rfl rfl ?_
      refine go_geti fl_X12_121 (pc := 75) dX12_readsSigns_75 (by rfl) ?_
      rw [hK.1]
      refine go_isub (pc := 78) dX12_readsSigns_78 ?_
      refine go_goto 83 (pc := 79) dX12_readsSigns_79 (by decide) ?_
      refine go_ireturn (pc := 83) dX12_readsSigns_83 rfl ?_
      refine ⟨?_, by rw [hN]; exact h20, by rw [hN]; exact hR, hTt, hF⟩
      rw [hN]
      unfold flt
      first
        | (rw [if_pos (by omega)]; rfl)
        | rw [if_neg (by omega)]
    · first | rw [zb_0d] at h59 | rw [zn_eq0 (by omega)] at h59 | rw [zi_eq0] at h59
      refine go_aload_n (i := 0) (pc := 62) dX12_readsSigns_62 rfl rfl ?_
      refine go_geti fl_X12_121 (pc := 63) dX12_readsSigns_63 (by rfl) ?_
      rw [hK.1]
      refine go_aload_n (i := 0) (pc := 66) dX12_readsSigns_66 rfl rfl ?_
      refine go_geti fl_X12_133 (pc := 67) dX12_readsSigns_67 (by rfl) ?_
      rw [hK.2.1]
      refine go_icmp_ge 82 (pc := 70) dX12_readsSigns_70 (by decide) (fun h70 => ?_) (fun h70 => ?_)
      · first | rw [nI_leI (by omega) (by omega)] at h70 | rw [zi_leN (by omega)] at h70 | rw [zi_Nle (by omega)] at h70 | rw [zi_le] at h70
        refine go_iconst (nI 0) (pc := 82) dX12_readsSigns_82 (by decide) ?_
        refine go_ireturn (pc := 83) dX12_readsSigns_83 rfl ?_
        refine ⟨?_, by rw [hN]; exact h20, by rw [hN]; exact hR, hTt, hF⟩
        rw [hN]
        unfold flt
        first
          | (rw [if_pos (by omega)]; rfl)
          | rw [if_neg (by omega)]
      · first | rw [nI_leI (by omega) (by omega)] at h70 | rw [zi_leN (by omega)] at h70 | rw [zi_Nle (by omega)] at h70 | rw [zi_le] at h70
        refine go_iconst (-1) (pc := 73) dX12_readsSigns_73 (by decide) ?_
        refine go_aload_n (i := 0) (pc := 74) dX12_readsSigns_74 rfl rfl ?_
        refine go_geti fl_X12_121 (pc := 75) dX12_readsSigns_75 (by rfl) ?_
        rw [hK.1]
        refine go_isub (pc := 78) dX12_readsSigns_78 ?_
        refine go_goto 83 (pc := 79) dX12_readsSigns_79 (by decide) ?_
        refine go_ireturn (pc := 83) dX12_readsSigns_83 rfl ?_
        refine ⟨?_, by rw [hN]; exact h20, by rw [hN]; exact hR, hTt, hF⟩
        rw [hN]
        unfold flt
        first
          | (rw [if_pos (by omega)]; rfl)
          | rw [if_neg (by omega)]
  have loop : ∀ (i : Nat) (τ : zT), i ≤ min L most → rlU ok i = i → τ.1 33 20 = nI i → Cur τ f i L → (∀ j, j < i → τ.2.1 33 10 j = nI (val j)) → TapeIs τ 0 f → Fr9 [15, 16, 17, 18, 20] [10] σ τ → GoM E 6 RX12 cX12_readsSigns 3 (some .int) (fun r σ' => r = some (.int (match flt (rlU ok (min L most)) L with | none => nI 0 | some q => mF q)) ∧ σ'.1 33 20 = nI (rlU ok (min L most)) ∧ (∀ i, i < (rlU ok (min L most)) → σ'.2.1 33 10 i = nI (val i)) ∧ TapeIs σ' 0 f ∧ Fr9 [15, 16, 17, 18, 20] [10] σ σ') τ 12 [(0, .ref (zA E 33 0)), (1, .ref (zKs E ti)), (2, .int (nI most))] [] := by
    intro i
    induction hz : min L most - i using Nat.strongRecOn generalizing i with
    | ind z ih =>
      intro τ hi hrl h20 hK hR hTt hF
      have hal : ∀ q, amA ti f i L = some q → q < 2 ^ 31 := fun q h => by have := (amA_lt h).2.1; omega
      refine go_aload_n (i := 0) (pc := 12) dX12_readsSigns_12 rfl rfl ?_
      refine go_geti fl_X12_169 (pc := 13) dX12_readsSigns_13 (by rfl) ?_
      rw [h20]
      refine go_iload_n (i := 2) (pc := 16) dX12_readsSigns_16 rfl rfl ?_
      refine go_icmp_ge 55 (pc := 17) dX12_readsSigns_17 (by decide) (fun h17 => ?_) (fun h17 => ?_)
      · first | rw [nI_leI (by omega) (by omega)] at h17 | rw [zi_leN (by omega)] at h17 | rw [zi_Nle (by omega)] at h17 | rw [zi_le] at h17
        refine fin i τ (by omega) ?_ h20 hK hR hTt hF
        rw [show min L most = i by omega]
        exact hrl
      · first | rw [nI_leI (by omega) (by omega)] at h17 | rw [zi_leN (by omega)] at h17 | rw [zi_Nle (by omega)] at h17 | rw [zi_le] at h17
        refine go_aload_n (i := 0) (pc := 20) dX12_readsSigns_20 rfl rfl ?_
        refine go_aload_n (i := 1) (pc := 21) dX12_readsSigns_21 rfl rfl ?_
        refine go_callV ml_X12_154 mt_X12_among (pc := 22) dX12_readsSigns_22 (c_X12_among hK hti) (by rfl) rfl (by rfl) (by decide) (by decide) rfl rfl (Nat.le_of_ble_eq_true rfl) (fun r σ' hp => ?_)
        obtain ⟨rfl, hσ⟩ := hp
        rw [hσ]
        clear hσ
        dsimp only [zRet]
        refine go_if_lt 55 (pc := 25) dX12_readsSigns_25 (by decide) (fun h25 => ?_) (fun h25 => ?_)
        · rw [zi_lt0, gM_lt hal] at h25
          refine fin i τ (by omega) ?_ h20 hK hR hTt hF
          by_cases hiL : i < L
          · have hb := hok i (by omega)
            rw [← amA_in (lim := L) hiL, h25] at hb
            have hob : ok i = false := by
              cases ho : ok i with
              | false => rfl
              | true => rw [ho, if_pos rfl] at hb; cases hb
            exact rlU_badN hrl hob (by omega)
          · rw [show min L most = i by omega]; exact hrl
        · rw [zi_lt0, gM_lt hal] at h25
          obtain ⟨q, hq⟩ := Option.ne_none_iff_exists'.mp h25
          obtain ⟨hiL, hqz, ham⟩ := amA_lt hq
          have hb := hok i (by omega)
          rw [ham] at hb
          have hoy : ok i = true ∧ q = val i := by
            cases ho : ok i with
            | false => rw [ho, if_neg (by decide)] at hb; cases hb
            | true => rw [ho, if_pos rfl] at hb; cases hb; exact ⟨rfl, rfl⟩
          refine go_aload_n (i := 0) (pc := 28) dX12_readsSigns_28 rfl rfl ?_
          refine go_getr2 fl_X12_45 (pc := 29) dX12_readsSigns_29 (by rfl) (by rfl) (by rfl) ?_
          refine go_aload_n (i := 0) (pc := 32) dX12_readsSigns_32 rfl rfl ?_
          refine go_geti fl_X12_169 (pc := 33) dX12_readsSigns_33 (by rfl) ?_
          rw [h20]
          refine go_aload_n (i := 0) (pc := 36) dX12_readsSigns_36 rfl rfl ?_
          refine go_aload_n (i := 1) (pc := 37) dX12_readsSigns_37 rfl rfl ?_
          refine go_callV ml_X12_172 mt_X12_takesOf (pc := 38) dX12_readsSigns_38 (c_X12_takesOf hK hti) (by rfl) rfl (by rfl) (by decide) (by decide) rfl rfl (Nat.le_of_ble_eq_true rfl) (fun r σ' hp => ?_)
          obtain ⟨rfl, hK2, hFd⟩ := hp
          dsimp only [zRet]
          rw [hq] at hK2 ⊢
          dsimp only [gM] at hK2 ⊢
          refine go_iastore i (pc := 41) dX12_readsSigns_41 rfl rfl rfl (by omega) ?_
          refine go_aload_n (i := 0) (pc := 42) dX12_readsSigns_42 rfl rfl ?_
          refine go_dup (pc := 43) dX12_readsSigns_43 rfl ?_
          refine go_geti fl_X12_169 (pc := 44) dX12_readsSigns_44 (by rfl) ?_
          rw [show (uA σ' 33 10 (upd (σ'.2.1 33 10) i (nI q))).1 33 20 = nI i from (by rw [uA_1, hFd.2.1 _ (by decide)]; exact h20)]
          refine go_iconst (nI 1) (pc := 47) dX12_readsSigns_47 (by decide) ?_
          first | with_reducible refine go_iaddN (pc := 48) dX12_readsSigns_48 ?_ | refine go_iadd (pc := 48) dX12_readsSigns_48 ?_
          refine go_puti fp_X12_169 (pc := 49) dX12_readsSigns_49 (by rfl) rfl rfl ?_
          refine go_goto 12 (pc := 52) dX12_readsSigns_52 (by decide) ?_
          have hFe := hFd.mono (fs2 := [15, 16, 17, 18, 20]) (js2 := [10]) (by simp) (by simp)
          refine ih (min L most - (i + 1)) (by omega) (i + 1) rfl _ (by omega) (rlU_s hrl hoy.1) (uS_s _ _ _ _) ?_ (fun j hj => ?_) ?_ (((hF.tr hFe).uA (by simp)).uS (by simp))
          · exact hK2.fr (fs := [20]) (js := [10]) ((Fr9.rf.uA (by simp)).uS (by simp)) (by decide) (by decide) (by decide)
          · rw [uS_2, uA_s, upd_at]
            by_cases e : j = i
            · rw [if_pos e, e, hoy.2]
            · rw [if_neg e, hFd.2.2.1 10 (by decide)]; exact hR j (by omega)
          · exact hTt.fr (fs := [16, 20]) (js := [10]) (((hFd.mono (by simp) (by simp)).uA (by simp)).uS (by simp)) (by decide) (by decide)
  refine go_aload_n (i := 0) (pc := 0) dX12_readsSigns_0 rfl rfl ?_
  refine go_bipush (nI 80) (pc := 1) dX12_readsSigns_1 (by decide) ?_
  refine go_callV ml_X12_166 mt_X12_begins (pc := 3) dX12_readsSigns_3 (c_X12_begins (most := 80) hT (by decide)) (by rfl) rfl (by rfl) (by decide) (by decide) rfl rfl (Nat.le_of_ble_eq_true rfl) (fun r σ' hp => ?_)
  obtain ⟨rfl, hK, hTt, -, hFb⟩ := hp
  dsimp only [zRet]
  rw [show min L 80 = L by omega] at hK
  refine go_pop (pc := 6) dX12_readsSigns_6 rfl ?_
  refine go_aload_n (i := 0) (pc := 7) dX12_readsSigns_7 rfl rfl ?_
  refine go_iconst (nI 0) (pc := 8) dX12_readsSigns_8 (by decide) ?_
  refine go_puti fp_X12_169 (pc := 9) dX12_readsSigns_9 (by rfl) rfl rfl ?_
  exact loop 0 _ (Nat.zero_le _) rfl (uS_s _ _ _ _) (hK.fr (fs := [20]) (js := []) (Fr9.rf.uS (by simp)) (by decide) (by decide) (by decide)) (fun j hj => absurd hj (Nat.not_lt_zero _)) (hTt.fr (fs := [20]) (js := []) (Fr9.rf.uS (by simp)) (by decide) (by decide)) ((hFb.mono (by simp) (by simp)).uS (by simp))

def hvL (f : Nat → Nat) (L q : Nat) : Nat := if q < L ∧ f q ≠ 71 then f q - 48 else 0
def gBL (f : Nat → Nat) (L i : Nat) : Nat := sumN i (fun q => if (decide (q < L ∧ f q = 71)) = true then 2 ^ q else 0)
def lnR (f ρ : Nat → Nat) (L i : Nat) : Nat → Nat := fun q => if q < 12 then (if q < i then hvL f L q else ρ q) else if q < 24 then (if q < 12 + i then 0 else ρ q) else if q = 24 then gBL f L i else ρ q
theorem lnR_up {f ρ : Nat → Nat} {L i : Nat} (hi : i < 12) : va_up (va_up (va_up (lnR f ρ L i) i (hvL f L i)) (12 + i) 0) 24 (gBL f L (i + 1)) = lnR f ρ L (i + 1) := by
  funext q
  simp only [va_at', lnR]
  by_cases h24 : q = 24
  · rw [if_pos h24, if_neg (by omega), if_neg (by omega), if_pos h24]
  · rw [if_neg h24]
    by_cases h1 : q = 12 + i
    · rw [if_pos h1, if_neg (by omega), if_pos (by omega), if_pos (by omega)]
    · rw [if_neg h1]
      by_cases h2 : q = i
      · rw [if_pos h2, if_pos (by omega), if_pos (by omega), h2]
      · rw [if_neg h2]
        by_cases h3 : q < 12
        · rw [if_pos h3, if_pos h3]
          by_cases h4 : q < i
          · rw [if_pos h4, if_pos (by omega)]
          · rw [if_neg h4, if_neg (by omega)]
        · rw [if_neg h3, if_neg h3]
          by_cases h5 : q < 24
          · rw [if_pos h5, if_pos h5]
            by_cases h6 : q < 12 + i
            · rw [if_pos h6, if_pos (by omega)]
            · rw [if_neg h6, if_neg (by omega)]
          · rw [if_neg h5, if_neg h5, if_neg h24, if_neg h24]
theorem linR_at {f ρ : Nat → Nat} : ∀ n, n ≤ 12 → ∀ q, q < 29 → linR f ρ n q = if q < 12 then (if q < n ∧ f q ≠ 71 then f q - 48 else 0) else if q = 24 then sumN n (fun i => if f i = 71 then 2 ^ i else 0) else if q = 25 ∨ q = 26 then ρ q else 0
  | 0, _, q, hq => by
    show lin0 ρ q = _
    unfold lin0
    by_cases h1 : q = 25 ∨ q = 26
    · rw [if_pos h1, if_neg (by omega), if_neg (by omega)]
    · rw [if_neg h1]
      by_cases h2 : q < 12
      · rw [if_pos h2, if_neg (by omega)]
      · rw [if_neg h2]
        by_cases h3 : q = 24
        · rw [if_pos h3]; rfl
        · rw [if_neg h3]
  | n + 1, hn, q, hq => by
    have ih := fun q hq => linR_at (f := f) (ρ := ρ) n (by omega) q hq
    rw [linR, sumN]
    by_cases hf : f n = 71
    · rw [if_pos hf, if_pos hf, va_at']
      by_cases h24 : q = 24
      · rw [if_pos h24, ih 24 (by omega), if_neg (by omega), if_pos rfl, if_neg (by omega), if_pos h24]
      · rw [if_neg h24, ih q hq, if_neg h24, if_neg h24]
        by_cases h12 : q < 12
        · rw [if_pos h12, if_pos h12]
          by_cases e : q = n
          · subst e; rw [if_neg (by omega), if_neg (fun h => h.2 hf)]
          · by_cases e2 : q < n ∧ f q ≠ 71
            · rw [if_pos e2, if_pos ⟨by omega, e2.2⟩]
            · rw [if_neg e2, if_neg (fun h => e2 ⟨by omega, h.2⟩)]
        · rw [if_neg h12, if_neg h12]
    · rw [if_neg hf, if_neg hf, va_at', Nat.add_zero]
      by_cases e : q = n
      · subst e; rw [if_pos rfl, if_pos (by omega), if_pos ⟨by omega, hf⟩]
      · rw [if_neg e, ih q hq]
        by_cases h12 : q < 12
        · rw [if_pos h12, if_pos h12]
          by_cases e2 : q < n ∧ f q ≠ 71
          · rw [if_pos e2, if_pos ⟨by omega, e2.2⟩]
          · rw [if_neg e2, if_neg (fun h => e2 ⟨by omega, h.2⟩)]
        · rw [if_neg h12, if_neg h12]; rfl
theorem gBL_12 {f : Nat → Nat} {L : Nat} : ∀ k, gBL f L (L + k) = sumN L (fun i => if f i = 71 then 2 ^ i else 0)
  | 0 => sumN_congr (fun i hi => by by_cases h : f i = 71 <;> simp [h]; omega)
  | k + 1 => by
    rw [← Nat.add_assoc]
    unfold gBL
    rw [sumN, if_neg (by simp; intro h; omega), Nat.add_zero]
    exact gBL_12 k
theorem lnR_end {f ρ : Nat → Nat} {L : Nat} (hL : L ≤ 12) : ∀ q, q < 29 → va_up (va_up (lnR f ρ L 12) 27 0) 28 0 q = linR f ρ L q := by
  intro q hq
  have hg : gBL f L 12 = sumN L (fun i => if f i = 71 then 2 ^ i else 0) := by have := gBL_12 (f := f) (L := L) (12 - L); rw [show L + (12 - L) = 12 by omega] at this; exact this
  rw [linR_at L hL q hq]
  simp only [va_at', lnR, hvL]
  by_cases h12 : q < 12
  · rw [if_neg (by omega), if_neg (by omega), if_pos h12, if_pos h12, if_pos h12]
  · rw [if_neg h12, if_neg h12]
    by_cases h24 : q = 24
    · rw [if_neg (by omega), if_neg (by omega), if_neg (by omega), if_pos h24, if_pos h24, hg]
    · rw [if_neg h24, if_neg h24]
      by_cases h25 : q = 25 ∨ q = 26
      · rw [if_neg (by omega), if_neg (by omega), if_neg (by omega), if_pos h25]
      · rw [if_neg h25]
        by_cases h28 : q = 28
        · rw [if_pos h28]
        · rw [if_neg h28]
          by_cases h27 : q = 27
          · rw [if_pos h27]
          · rw [if_neg h27, if_pos (by omega), if_pos (by omega)]
theorem linR_ok {f ρ : Nat → Nat} {L n : Nat} (h1 : 1 ≤ L) (h2 : L ≤ 12) (hok : ∀ i, i < L → okL f i = true) (h : RowOK n ρ) : RowOK L (linR f ρ L) := by
  have hat := fun q hq => linR_at (f := f) (ρ := ρ) L h2 q hq
  refine ⟨h1, h2, fun i hi => ?_, linR_24 L h2, ?_, ?_, ?_, ?_⟩
  · rw [hat i (by omega)]
    by_cases h12 : i < 12
    · rw [if_pos h12]
      by_cases e : i < L ∧ f i ≠ 71
      · rw [if_pos e]
        have := hok i e.1
        unfold okL at this
        simp only [decide_eq_true_eq] at this
        omega
      · rw [if_neg e]; omega
    · rw [if_neg h12, if_neg (by omega), if_neg (by omega)]; omega
  · rw [hat 25 (by omega), if_neg (by omega), if_neg (by omega), if_pos (by omega)]; exact h.2.2.2.2.1
  · rw [hat 26 (by omega), if_neg (by omega), if_neg (by omega), if_pos (by omega)]; exact h.2.2.2.2.2.1
  · rw [hat 27 (by omega), if_neg (by omega), if_neg (by omega), if_neg (by omega)]; decide
  · rw [hat 28 (by omega), if_neg (by omega), if_neg (by omega), if_neg (by omega)]; decide

theorem c_X12_line {E : zE} {σ : zT} {tx : Nat × (Nat → Nat)} {bd : Nat × (Nat → Nat) × (Nat → Nat)} {sk : Nat × (Nat → Nat)} {tw : Nat × (Nat → Nat) × (Nat → Nat)} {xs : List Nat} {ld : Nat × (Nat → Nat)} {pa sh : Nat × (Nat → Nat → Nat)} {ru : Nat × (Nat → Nat) × (Nat → Nat)} {to : Nat × (Nat → Int64)} (hC : RefIs σ tx bd sk tw xs ld pa sh ru to) : CalM E 7 yX12_line cX12_line 4 (some .int) [.ref (zA E 33 0)] σ (fun r σ' => r = some (.int (match linF tx.1 tx.2 with | none => nI tx.1 | some q => mF q)) ∧ RefIs σ' (0, tx.2) bd sk tw xs (match linF tx.1 tx.2 with | none => (tx.1, linR tx.2 ld.2 tx.1) | some _ => ld) (match linF tx.1 tx.2 with | none => (0, pa.2) | some _ => pa) (match linF tx.1 tx.2 with | none => (0, sh.2) | some _ => sh) ru to ∧ FrG [33] σ σ') := by
  refine cal_of_go (own := RX12) rfl (by decide +kernel) (Nat.le_of_ble_eq_true rfl) ?_
  have hT := hC.2.1
  have hL := hT.2.1
  have hN := hC.2.2.2.2.2.1
  have hKp := hC.2.2.2.2.2.2.2.1
  have hokL : ∀ i, i < 80 → am 0 (tx.2 i) = if okL tx.2 i = true then some ((fun i => if tx.2 i = 71 then 10 else tx.2 i - 48) i) else none := fun i hi => by
    rw [am_0 _ (hT.2.2 i hi).2]
    unfold okL
    by_cases h : 48 ≤ tx.2 i ∧ tx.2 i ≤ 57 ∨ tx.2 i = 71
    · rw [if_pos h, if_pos (decide_eq_true (show tx.2 i = 71 ∨ (48 ≤ tx.2 i ∧ tx.2 i ≤ 57) by omega))]
    · rw [if_neg h, if_neg (by rw [decide_eq_false (show ¬ (tx.2 i = 71 ∨ (48 ≤ tx.2 i ∧ tx.2 i ≤ 57)) by omega)]; decide)]
  have main : 1 ≤ tx.1 → tx.1 ≤ 12 → (∀ i, i < tx.1 → okL tx.2 i = true) → ∀ τ, τ.1 33 20 = nI tx.1 → (∀ j, j < tx.1 → τ.2.1 33 10 j = nI ((fun i => if tx.2 i = 71 then 10 else tx.2 i - 48) j)) → TapeIs τ 0 tx.2 → RwIs τ 7 ld.2 → Fr9 [0, 3, 15, 16, 17, 18, 20, 29] [7, 10, 25] σ τ → GoM E 7 RX12 cX12_line 4 (some .int) (fun r σ' => r = some (.int (nI tx.1)) ∧ RefIs σ' (0, tx.2) bd sk tw xs (tx.1, linR tx.2 ld.2 tx.1) (0, pa.2) (0, sh.2) ru to ∧ FrG [33] σ σ') τ 20 [(0, .ref (zA E 33 0)), (1, .int (nI 0))] [] := by
    intro h1 h12 hoks
    have lo2 : ∀ (i : Nat) (τ : zT), i ≤ 3 → RwIs τ 7 (linR tx.2 ld.2 tx.1) → τ.1 33 3 = nI tx.1 → τ.1 33 29 = nI 0 → (∀ j, j < i → τ.2.1 33 25 j = nI 0) → TapeIs τ 0 tx.2 → Fr9 [0, 3, 15, 16, 17, 18, 20, 29] [7, 10, 25] σ τ → GoM E 7 RX12 cX12_line 4 (some .int) (fun r σ' => r = some (.int (nI tx.1)) ∧ RefIs σ' (0, tx.2) bd sk tw xs (tx.1, linR tx.2 ld.2 tx.1) (0, pa.2) (0, sh.2) ru to ∧ FrG [33] σ σ') τ 157 [(0, .ref (zA E 33 0)), (1, .int (nI 0)), (2, .int (nI i))] [] := by
      intro i
      induction hz : 3 - i using Nat.strongRecOn generalizing i with
      | ind z ih =>
        intro τ hi hR h3 hu hk hTt hF
        refine go_iload_n (i := 2) (pc := 157) dX12_line_157 rfl rfl ?_
        refine go_iconst (nI 3) (pc := 158) dX12_line_158 (by decide) ?_
        refine go_icmp_ge 175 (pc := 159) dX12_line_159 (by decide) (fun h159 => ?_) (fun h159 => ?_)
        · first | rw [nI_leI (by omega) (by omega)] at h159 | rw [zi_leN (by omega)] at h159 | rw [zi_Nle (by omega)] at h159 | rw [zi_le] at h159
          have e : i = 3 := by omega
          subst e
          refine go_aload_n (i := 0) (pc := 175) dX12_line_175 rfl rfl ?_
          refine go_geti fl_X12_13 (pc := 176) dX12_line_176 (by rfl) ?_
          rw [h3]
          refine go_ireturn (pc := 179) dX12_line_179 rfl ?_
          exact ⟨rfl, ⟨(hC.1).fr hF (by decide) (by decide), hTt, (hC.2.2.1).fr hF (by decide) (by decide) (by decide), (hC.2.2.2.1).fr hF (by decide) (by decide), (hC.2.2.2.2.1).fr hF (by decide) (by decide) (by decide), ⟨h3, linR_ok h1 h12 hoks hN.2.1, hR⟩, ⟨Nat.zero_le _, hu, fun q hq => absurd hq (Nat.not_lt_zero _)⟩, ⟨(by show 0 < 8; decide), fun q hq => ⟨by rw [hk q hq]; simp [zb], fun h => by simp at h⟩⟩, (hC.2.2.2.2.2.2.2.2.1).fr hF (by decide) (by decide) (by decide), (hC.2.2.2.2.2.2.2.2.2).fr hF (by decide) (by decide)⟩, hF.1⟩
        · first | rw [nI_leI (by omega) (by omega)] at h159 | rw [zi_leN (by omega)] at h159 | rw [zi_Nle (by omega)] at h159 | rw [zi_le] at h159
          refine go_aload_n (i := 0) (pc := 162) dX12_line_162 rfl rfl ?_
          refine go_getr2 fl_X12_90 (pc := 163) dX12_line_163 (by rfl) (by rfl) (by rfl) ?_
          refine go_iload_n (i := 2) (pc := 166) dX12_line_166 rfl rfl ?_
          refine go_iconst (nI 0) (pc := 167) dX12_line_167 (by decide) ?_
          refine go_zastore i (pc := 168) dX12_line_168 rfl rfl rfl (by omega) rfl ?_
          refine go_iincN (pc := 169) dX12_line_169 rfl (by decide) ?_
          refine go_goto 157 (pc := 172) dX12_line_172 (by decide) ?_
          exact ih (3 - (i + 1)) (by omega) (i + 1) rfl _ (by omega) (hR.ne (by decide)) h3 hu (fun j hj => by rw [uA_s, upd_at]; split; rfl; exact hk j (by omega)) (hTt.fr (fs := []) (js := [25]) (Fr9.rf.uA (by simp)) (by decide) (by decide)) (hF.uA (by simp))
    have lo1 : ∀ (i : Nat) (τ : zT), i ≤ 12 → RwIs τ 7 (lnR tx.2 ld.2 tx.1 i) → τ.1 33 3 = nI tx.1 → (∀ j, j < tx.1 → τ.2.1 33 10 j = nI ((fun i => if tx.2 i = 71 then 10 else tx.2 i - 48) j)) → TapeIs τ 0 tx.2 → Fr9 [0, 3, 15, 16, 17, 18, 20, 29] [7, 10, 25] σ τ → GoM E 7 RX12 cX12_line 4 (some .int) (fun r σ' => r = some (.int (nI tx.1)) ∧ RefIs σ' (0, tx.2) bd sk tw xs (tx.1, linR tx.2 ld.2 tx.1) (0, pa.2) (0, sh.2) ru to ∧ FrG [33] σ σ') τ 38 [(0, .ref (zA E 33 0)), (1, .int (nI 0)), (2, .int (nI i))] [] := by
      intro i
      induction hz : 12 - i using Nat.strongRecOn generalizing i with
      | ind z ih =>
        intro τ hi hR h3 hrd hTt hF
        have hbl : gBL tx.2 tx.1 i < 2 ^ i := bits_lt (b := fun q => (decide (q < tx.1 ∧ tx.2 q = 71)) = true) i
        have hf := (hT.2.2 i (by omega)).2
        by_cases hi12 : i = 12
        · subst hi12
          refine go_iload_n (i := 2) (pc := 38) dX12_line_38 rfl rfl ?_
          refine go_bipush (nI 12) (pc := 39) dX12_line_39 (by decide) ?_
          refine go_icmp_ge 134 (pc := 41) dX12_line_41 (by decide) (fun h41 => ?_) (fun h41 => ?_)
          · first | rw [nI_leI (by omega) (by omega)] at h41 | rw [zi_leN (by omega)] at h41 | rw [zi_Nle (by omega)] at h41 | rw [zi_le] at h41
            refine go_aload_n (i := 0) (pc := 134) dX12_line_134 rfl rfl ?_
            refine go_getr2 fl_X12_36 (pc := 135) dX12_line_135 (by rfl) (by rfl) (by rfl) ?_
            refine go_bipush (nI 27) (pc := 138) dX12_line_138 (by decide) ?_
            refine go_iconst (nI 0) (pc := 140) dX12_line_140 (by decide) ?_
            refine go_iastore 27 (pc := 141) dX12_line_141 rfl rfl rfl (by decide) ?_
            refine go_aload_n (i := 0) (pc := 142) dX12_line_142 rfl rfl ?_
            refine go_getr2 fl_X12_36 (pc := 143) dX12_line_143 (by rfl) (by rfl) (by rfl) ?_
            refine go_bipush (nI 28) (pc := 146) dX12_line_146 (by decide) ?_
            refine go_iconst (nI 0) (pc := 148) dX12_line_148 (by decide) ?_
            refine go_iastore 28 (pc := 149) dX12_line_149 rfl rfl rfl (by decide) ?_
            refine go_aload_n (i := 0) (pc := 150) dX12_line_150 rfl rfl ?_
            refine go_iconst (nI 0) (pc := 151) dX12_line_151 (by decide) ?_
            refine go_puti fp_X12_181 (pc := 152) dX12_line_152 (by rfl) rfl rfl ?_
            refine go_iconst (nI 0) (pc := 155) dX12_line_155 (by decide) ?_
            refine go_istore_n (i := 2) (pc := 156) dX12_line_156 rfl (by decide) ?_
            refine lo2 0 _ (Nat.zero_le _) ((hR.up.up).cg (lnR_end h12)) h3 (uS_s _ _ _ _) (fun j hj => absurd hj (Nat.not_lt_zero _)) (hTt.fr (fs := [29]) (js := [7]) (((Fr9.rf.uA (by simp)).uA (by simp)).uS (by simp)) (by decide) (by decide)) (((hF.uA (by simp)).uA (by simp)).uS (by simp))
          · first | rw [nI_leI (by omega) (by omega)] at h41 | rw [zi_leN (by omega)] at h41 | rw [zi_Nle (by omega)] at h41 | rw [zi_le] at h41
            exfalso; omega
        · by_cases hin : i < tx.1
          · by_cases h71 : tx.2 i = 71
            · have hg : i < tx.1 ∧ tx.2 i = 71 := ⟨hin, h71⟩
              refine go_iload_n (i := 2) (pc := 38) dX12_line_38 rfl rfl ?_
              refine go_bipush (nI 12) (pc := 39) dX12_line_39 (by decide) ?_
              refine go_icmp_ge 134 (pc := 41) dX12_line_41 (by decide) (fun h41 => ?_) (fun h41 => ?_)
              · first | rw [nI_leI (by omega) (by omega)] at h41 | rw [zi_leN (by omega)] at h41 | rw [zi_Nle (by omega)] at h41 | rw [zi_le] at h41
                exfalso; omega
              · first | rw [nI_leI (by omega) (by omega)] at h41 | rw [zi_leN (by omega)] at h41 | rw [zi_Nle (by omega)] at h41 | rw [zi_le] at h41
                refine go_iload_n (i := 2) (pc := 44) dX12_line_44 rfl rfl ?_
                refine go_aload_n (i := 0) (pc := 45) dX12_line_45 rfl rfl ?_
                refine go_geti fl_X12_13 (pc := 46) dX12_line_46 (by rfl) ?_
                rw [h3]
                refine go_icmp_ge 67 (pc := 49) dX12_line_49 (by decide) (fun h49 => ?_) (fun h49 => ?_)
                · first | rw [nI_leI (by omega) (by omega)] at h49 | rw [zi_leN (by omega)] at h49 | rw [zi_Nle (by omega)] at h49 | rw [zi_le] at h49
                  exfalso; omega
                · first | rw [nI_leI (by omega) (by omega)] at h49 | rw [zi_leN (by omega)] at h49 | rw [zi_Nle (by omega)] at h49 | rw [zi_le] at h49
                  refine go_aload_n (i := 0) (pc := 52) dX12_line_52 rfl rfl ?_
                  refine go_getr2 fl_X12_45 (pc := 53) dX12_line_53 (by rfl) (by rfl) (by rfl) ?_
                  refine go_iload_n (i := 2) (pc := 56) dX12_line_56 rfl rfl ?_
                  refine go_iaload _ (pc := 57) dX12_line_57 (by first | rfl | (apply zM_ar <;> assumption)) (by first | rfl | (apply zM_jn <;> assumption)) rfl (by first | assumption | omega) ?_
                  rw [hrd i (by omega)]
                  change GoM _ _ _ _ _ _ _ _ _ _ (.int (nI (if tx.2 i = 71 then 10 else tx.2 i - 48)) :: _)
                  refine go_bipush (nI 10) (pc := 58) dX12_line_58 (by decide) ?_
                  refine go_icmp_ne 67 (pc := 60) dX12_line_60 (by decide) (fun h60 => ?_) (fun h60 => ?_)
                  · exact absurd (by rw [if_pos hg.2]) h60
                  · refine go_iconst (nI 1) (pc := 63) dX12_line_63 (by decide) ?_
                    refine go_goto 68 (pc := 64) dX12_line_64 (by decide) ?_
                    refine go_istore_n (i := 3) (pc := 68) dX12_line_68 rfl (by decide) ?_
                    refine go_aload_n (i := 0) (pc := 69) dX12_line_69 rfl rfl ?_
                    refine go_getr2 fl_X12_36 (pc := 70) dX12_line_70 (by rfl) (by rfl) (by rfl) ?_
                    refine go_iload_n (i := 2) (pc := 73) dX12_line_73 rfl rfl ?_
                    refine go_iload_n (i := 2) (pc := 74) dX12_line_74 rfl rfl ?_
                    refine go_aload_n (i := 0) (pc := 75) dX12_line_75 rfl rfl ?_
                    refine go_geti fl_X12_13 (pc := 76) dX12_line_76 (by rfl) ?_
                    rw [h3]
                    refine go_icmp_ge 95 (pc := 79) dX12_line_79 (by decide) (fun h79 => ?_) (fun h79 => ?_)
                    · first | rw [nI_leI (by omega) (by omega)] at h79 | rw [zi_leN (by omega)] at h79 | rw [zi_Nle (by omega)] at h79 | rw [zi_le] at h79
                      exfalso; omega
                    · first | rw [nI_leI (by omega) (by omega)] at h79 | rw [zi_leN (by omega)] at h79 | rw [zi_Nle (by omega)] at h79 | rw [zi_le] at h79
                      refine go_iload_n (i := 3) (pc := 82) dX12_line_82 rfl rfl ?_
                      refine go_if_ne 95 (pc := 83) dX12_line_83 (by decide) (fun h83 => ?_) (fun h83 => ?_)
                      · refine go_iconst (nI 0) (pc := 95) dX12_line_95 (by decide) ?_
                        refine go_top (congrArg (fun z => Value.int (nI z)) (show (0 : Nat) = (hvL tx.2 tx.1 i) from (if_neg (fun q => q.2 hg.2)).symm)) ?_
                        refine go_iastore i (pc := 96) dX12_line_96 rfl rfl rfl (by omega) ?_
                        have hR1 := hR.up (i := i) (v := (hvL tx.2 tx.1 i))
                        have hT1 : TapeIs (uA τ 33 7 (upd (τ.2.1 33 7) i (nI (hvL tx.2 tx.1 i)))) 0 tx.2 := hTt.fr (fs := []) (js := [7]) (Fr9.rf.uA (by simp)) (by decide) (by decide)
                        have hF1 : Fr9 [0, 3, 15, 16, 17, 18, 20, 29] [7, 10, 25] σ (uA τ 33 7 (upd (τ.2.1 33 7) i (nI (hvL tx.2 tx.1 i)))) := hF.uA (by simp)
                        have h31 : (uA τ 33 7 (upd (τ.2.1 33 7) i (nI (hvL tx.2 tx.1 i)))).1 33 3 = nI tx.1 := h3
                        have hrd1 : ∀ j, j < tx.1 → (uA τ 33 7 (upd (τ.2.1 33 7) i (nI (hvL tx.2 tx.1 i)))).2.1 33 10 j = nI ((fun i => if tx.2 i = 71 then 10 else tx.2 i - 48) j) := fun j hj => by rw [uA_2, if_neg (by decide)]; exact hrd j hj
                        generalize uA τ 33 7 (upd (τ.2.1 33 7) i (nI (hvL tx.2 tx.1 i))) = τ1 at hR1 hT1 hF1 h31 hrd1 ⊢
                        refine go_aload_n (i := 0) (pc := 97) dX12_line_97 rfl rfl ?_
                        refine go_getr2 fl_X12_36 (pc := 98) dX12_line_98 (by rfl) (by rfl) (by rfl) ?_
                        refine go_bipush (nI 12) (pc := 101) dX12_line_101 (by decide) ?_
                        refine go_iload_n (i := 2) (pc := 103) dX12_line_103 rfl rfl ?_
                        first | with_reducible refine go_iaddN (pc := 104) dX12_line_104 ?_ | refine go_iadd (pc := 104) dX12_line_104 ?_
                        refine go_iconst (nI 0) (pc := 105) dX12_line_105 (by decide) ?_
                        refine go_iastore (12 + i) (pc := 106) dX12_line_106 rfl rfl rfl (by omega) ?_
                        have hR2 := hR1.up (i := 12 + i) (v := 0)
                        have hT2 : TapeIs (uA τ1 33 7 (upd (τ1.2.1 33 7) (12 + i) (nI 0))) 0 tx.2 := hT1.fr (fs := []) (js := [7]) (Fr9.rf.uA (by simp)) (by decide) (by decide)
                        have hF2 : Fr9 [0, 3, 15, 16, 17, 18, 20, 29] [7, 10, 25] σ (uA τ1 33 7 (upd (τ1.2.1 33 7) (12 + i) (nI 0))) := hF1.uA (by simp)
                        have h32 : (uA τ1 33 7 (upd (τ1.2.1 33 7) (12 + i) (nI 0))).1 33 3 = nI tx.1 := h31
                        have hrd2 : ∀ j, j < tx.1 → (uA τ1 33 7 (upd (τ1.2.1 33 7) (12 + i) (nI 0))).2.1 33 10 j = nI ((fun i => if tx.2 i = 71 then 10 else tx.2 i - 48) j) := fun j hj => by rw [uA_2, if_neg (by decide)]; exact hrd1 j hj
                        generalize uA τ1 33 7 (upd (τ1.2.1 33 7) (12 + i) (nI 0)) = τ2 at hR2 hT2 hF2 h32 hrd2 ⊢
                        have e24 : va_up (va_up (lnR tx.2 ld.2 tx.1 i) i (hvL tx.2 tx.1 i)) (12 + i) 0 24 = gBL tx.2 tx.1 i := by rw [va_at', if_neg (by omega), va_at', if_neg (by omega)]; unfold lnR; rw [if_neg (by decide), if_neg (by decide), if_pos rfl]
                        refine go_aload_n (i := 0) (pc := 107) dX12_line_107 rfl rfl ?_
                        refine go_getr2 fl_X12_36 (pc := 108) dX12_line_108 (by rfl) (by rfl) (by rfl) ?_
                        refine go_bipush (nI 24) (pc := 111) dX12_line_111 (by decide) ?_
                        refine go_dup2 (pc := 113) dX12_line_113 rfl rfl ?_
                        refine go_iaload 24 (pc := 114) dX12_line_114 rfl rfl rfl (by decide) ?_
                        rw [hR2 24 (by decide), e24]
                        refine go_iload_n (i := 3) (pc := 115) dX12_line_115 rfl rfl ?_
                        refine go_if_eq 125 (pc := 116) dX12_line_116 (by decide) (fun h116 => ?_) (fun h116 => ?_)
                        · exact absurd h116 (by decide)
                        · refine go_iconst (nI 1) (pc := 119) dX12_line_119 (by decide) ?_
                          refine go_iload_n (i := 2) (pc := 120) dX12_line_120 rfl rfl ?_
                          refine go_ishl (pc := 121) dX12_line_121 ?_
                          refine go_goto 126 (pc := 122) dX12_line_122 (by decide) ?_
                          refine go_ior (pc := 126) dX12_line_126 ?_
                          rw [zor2 hbl (by omega)]
                          have eg : gBL tx.2 tx.1 i + 2 ^ i = gBL tx.2 tx.1 (i + 1) := by unfold gBL; rw [sumN, if_pos (by simp [hg.1, hg.2])]
                          refine go_top (congrArg (fun z => Value.int (nI z)) eg) ?_
                          refine go_iastore 24 (pc := 127) dX12_line_127 rfl rfl rfl (by decide) ?_
                          refine go_iincN (pc := 128) dX12_line_128 rfl (by decide) ?_
                          refine go_goto 38 (pc := 131) dX12_line_131 (by decide) ?_
                          refine go_drop [0, 1, 2] rfl ?_
                          exact ih (12 - (i + 1)) (by omega) (i + 1) rfl _ (by omega) (by rw [← lnR_up (by omega)]; exact hR2.up) h32 (fun j hj => by rw [uA_2, if_neg (by decide)]; exact hrd2 j hj) (hT2.fr (fs := []) (js := [7]) (Fr9.rf.uA (by simp)) (by decide) (by decide)) (hF2.uA (by simp))
                      · exact absurd h83 (by decide)
            · have hg : i < tx.1 ∧ ¬ tx.2 i = 71 := ⟨hin, h71⟩
              refine go_iload_n (i := 2) (pc := 38) dX12_line_38 rfl rfl ?_
              refine go_bipush (nI 12) (pc := 39) dX12_line_39 (by decide) ?_
              refine go_icmp_ge 134 (pc := 41) dX12_line_41 (by decide) (fun h41 => ?_) (fun h41 => ?_)
              · first | rw [nI_leI (by omega) (by omega)] at h41 | rw [zi_leN (by omega)] at h41 | rw [zi_Nle (by omega)] at h41 | rw [zi_le] at h41
                exfalso; omega
              · first | rw [nI_leI (by omega) (by omega)] at h41 | rw [zi_leN (by omega)] at h41 | rw [zi_Nle (by omega)] at h41 | rw [zi_le] at h41
                refine go_iload_n (i := 2) (pc := 44) dX12_line_44 rfl rfl ?_
                refine go_aload_n (i := 0) (pc := 45) dX12_line_45 rfl rfl ?_
                refine go_geti fl_X12_13 (pc := 46) dX12_line_46 (by rfl) ?_
                rw [h3]
                refine go_icmp_ge 67 (pc := 49) dX12_line_49 (by decide) (fun h49 => ?_) (fun h49 => ?_)
                · first | rw [nI_leI (by omega) (by omega)] at h49 | rw [zi_leN (by omega)] at h49 | rw [zi_Nle (by omega)] at h49 | rw [zi_le] at h49
                  exfalso; omega
                · first | rw [nI_leI (by omega) (by omega)] at h49 | rw [zi_leN (by omega)] at h49 | rw [zi_Nle (by omega)] at h49 | rw [zi_le] at h49
                  refine go_aload_n (i := 0) (pc := 52) dX12_line_52 rfl rfl ?_
                  refine go_getr2 fl_X12_45 (pc := 53) dX12_line_53 (by rfl) (by rfl) (by rfl) ?_
                  refine go_iload_n (i := 2) (pc := 56) dX12_line_56 rfl rfl ?_
                  refine go_iaload _ (pc := 57) dX12_line_57 (by first | rfl | (apply zM_ar <;> assumption)) (by first | rfl | (apply zM_jn <;> assumption)) rfl (by first | assumption | omega) ?_
                  rw [hrd i (by omega)]
                  change GoM _ _ _ _ _ _ _ _ _ _ (.int (nI (if tx.2 i = 71 then 10 else tx.2 i - 48)) :: _)
                  refine go_bipush (nI 10) (pc := 58) dX12_line_58 (by decide) ?_
                  refine go_icmp_ne 67 (pc := 60) dX12_line_60 (by decide) (fun h60 => ?_) (fun h60 => ?_)
                  · refine go_iconst (nI 0) (pc := 67) dX12_line_67 (by decide) ?_
                    refine go_istore_n (i := 3) (pc := 68) dX12_line_68 rfl (by decide) ?_
                    refine go_aload_n (i := 0) (pc := 69) dX12_line_69 rfl rfl ?_
                    refine go_getr2 fl_X12_36 (pc := 70) dX12_line_70 (by rfl) (by rfl) (by rfl) ?_
                    refine go_iload_n (i := 2) (pc := 73) dX12_line_73 rfl rfl ?_
                    refine go_iload_n (i := 2) (pc := 74) dX12_line_74 rfl rfl ?_
                    refine go_aload_n (i := 0) (pc := 75) dX12_line_75 rfl rfl ?_
                    refine go_geti fl_X12_13 (pc := 76) dX12_line_76 (by rfl) ?_
                    rw [h3]
                    refine go_icmp_ge 95 (pc := 79) dX12_line_79 (by decide) (fun h79 => ?_) (fun h79 => ?_)
                    · first | rw [nI_leI (by omega) (by omega)] at h79 | rw [zi_leN (by omega)] at h79 | rw [zi_Nle (by omega)] at h79 | rw [zi_le] at h79
                      exfalso; omega
                    · first | rw [nI_leI (by omega) (by omega)] at h79 | rw [zi_leN (by omega)] at h79 | rw [zi_Nle (by omega)] at h79 | rw [zi_le] at h79
                      refine go_iload_n (i := 3) (pc := 82) dX12_line_82 rfl rfl ?_
                      refine go_if_ne 95 (pc := 83) dX12_line_83 (by decide) (fun h83 => ?_) (fun h83 => ?_)
                      · exact absurd rfl h83
                      · refine go_aload_n (i := 0) (pc := 86) dX12_line_86 rfl rfl ?_
                        refine go_getr2 fl_X12_45 (pc := 87) dX12_line_87 (by rfl) (by rfl) (by rfl) ?_
                        refine go_iload_n (i := 2) (pc := 90) dX12_line_90 rfl rfl ?_
                        refine go_iaload _ (pc := 91) dX12_line_91 (by first | rfl | (apply zM_ar <;> assumption)) (by first | rfl | (apply zM_jn <;> assumption)) rfl (by first | assumption | omega) ?_
                        rw [hrd i (by omega)]
                        change GoM _ _ _ _ _ _ _ _ _ _ (.int (nI (if tx.2 i = 71 then 10 else tx.2 i - 48)) :: _)
                        rw [if_neg hg.2]
                        refine go_goto 96 (pc := 92) dX12_line_92 (by decide) ?_
                        refine go_top (congrArg (fun z => Value.int (nI z)) (show _ = (hvL tx.2 tx.1 i) from (if_pos ⟨hg.1, hg.2⟩).symm)) ?_
                        refine go_iastore i (pc := 96) dX12_line_96 rfl rfl rfl (by omega) ?_
                        have hR1 := hR.up (i := i) (v := (hvL tx.2 tx.1 i))
                        have hT1 : TapeIs (uA τ 33 7 (upd (τ.2.1 33 7) i (nI (hvL tx.2 tx.1 i)))) 0 tx.2 := hTt.fr (fs := []) (js := [7]) (Fr9.rf.uA (by simp)) (by decide) (by decide)
                        have hF1 : Fr9 [0, 3, 15, 16, 17, 18, 20, 29] [7, 10, 25] σ (uA τ 33 7 (upd (τ.2.1 33 7) i (nI (hvL tx.2 tx.1 i)))) := hF.uA (by simp)
                        have h31 : (uA τ 33 7 (upd (τ.2.1 33 7) i (nI (hvL tx.2 tx.1 i)))).1 33 3 = nI tx.1 := h3
                        have hrd1 : ∀ j, j < tx.1 → (uA τ 33 7 (upd (τ.2.1 33 7) i (nI (hvL tx.2 tx.1 i)))).2.1 33 10 j = nI ((fun i => if tx.2 i = 71 then 10 else tx.2 i - 48) j) := fun j hj => by rw [uA_2, if_neg (by decide)]; exact hrd j hj
                        generalize uA τ 33 7 (upd (τ.2.1 33 7) i (nI (hvL tx.2 tx.1 i))) = τ1 at hR1 hT1 hF1 h31 hrd1 ⊢
                        refine go_aload_n (i := 0) (pc := 97) dX12_line_97 rfl rfl ?_
                        refine go_getr2 fl_X12_36 (pc := 98) dX12_line_98 (by rfl) (by rfl) (by rfl) ?_
                        refine go_bipush (nI 12) (pc := 101) dX12_line_101 (by decide) ?_
                        refine go_iload_n (i := 2) (pc := 103) dX12_line_103 rfl rfl ?_
                        first | with_reducible refine go_iaddN (pc := 104) dX12_line_104 ?_ | refine go_iadd (pc := 104) dX12_line_104 ?_
                        refine go_iconst (nI 0) (pc := 105) dX12_line_105 (by decide) ?_
                        refine go_iastore (12 + i) (pc := 106) dX12_line_106 rfl rfl rfl (by omega) ?_
                        have hR2 := hR1.up (i := 12 + i) (v := 0)
                        have hT2 : TapeIs (uA τ1 33 7 (upd (τ1.2.1 33 7) (12 + i) (nI 0))) 0 tx.2 := hT1.fr (fs := []) (js := [7]) (Fr9.rf.uA (by simp)) (by decide) (by decide)
                        have hF2 : Fr9 [0, 3, 15, 16, 17, 18, 20, 29] [7, 10, 25] σ (uA τ1 33 7 (upd (τ1.2.1 33 7) (12 + i) (nI 0))) := hF1.uA (by simp)
                        have h32 : (uA τ1 33 7 (upd (τ1.2.1 33 7) (12 + i) (nI 0))).1 33 3 = nI tx.1 := h31
                        have hrd2 : ∀ j, j < tx.1 → (uA τ1 33 7 (upd (τ1.2.1 33 7) (12 + i) (nI 0))).2.1 33 10 j = nI ((fun i => if tx.2 i = 71 then 10 else tx.2 i - 48) j) := fun j hj => by rw [uA_2, if_neg (by decide)]; exact hrd1 j hj
                        generalize uA τ1 33 7 (upd (τ1.2.1 33 7) (12 + i) (nI 0)) = τ2 at hR2 hT2 hF2 h32 hrd2 ⊢
                        have e24 : va_up (va_up (lnR tx.2 ld.2 tx.1 i) i (hvL tx.2 tx.1 i)) (12 + i) 0 24 = gBL tx.2 tx.1 i := by rw [va_at', if_neg (by omega), va_at', if_neg (by omega)]; unfold lnR; rw [if_neg (by decide), if_neg (by decide), if_pos rfl]
                        refine go_aload_n (i := 0) (pc := 107) dX12_line_107 rfl rfl ?_
                        refine go_getr2 fl_X12_36 (pc := 108) dX12_line_108 (by rfl) (by rfl) (by rfl) ?_
                        refine go_bipush (nI 24) (pc := 111) dX12_line_111 (by decide) ?_
                        refine go_dup2 (pc := 113) dX12_line_113 rfl rfl ?_
                        refine go_iaload 24 (pc := 114) dX12_line_114 rfl rfl rfl (by decide) ?_
                        rw [hR2 24 (by decide), e24]
                        refine go_iload_n (i := 3) (pc := 115) dX12_line_115 rfl rfl ?_
                        refine go_if_eq 125 (pc := 116) dX12_line_116 (by decide) (fun h116 => ?_) (fun h116 => ?_)
                        · refine go_iconst (nI 0) (pc := 125) dX12_line_125 (by decide) ?_
                          refine go_ior (pc := 126) dX12_line_126 ?_
                          rw [zorN, Nat.or_zero]
                          have eg : gBL tx.2 tx.1 i = gBL tx.2 tx.1 (i + 1) := by unfold gBL; rw [sumN, if_neg (by simp; intro q; first | (exact hg.2) | (exact fun _ => hg q) | (exact absurd q hg)), Nat.add_zero]
                          refine go_top (congrArg (fun z => Value.int (nI z)) eg) ?_
                          refine go_iastore 24 (pc := 127) dX12_line_127 rfl rfl rfl (by decide) ?_
                          refine go_iincN (pc := 128) dX12_line_128 rfl (by decide) ?_
                          refine go_goto 38 (pc := 131) dX12_line_131 (by decide) ?_
                          refine go_drop [0, 1, 2] rfl ?_
                          exact ih (12 - (i + 1)) (by omega) (i + 1) rfl _ (by omega) (by rw [← lnR_up (by omega)]; exact hR2.up) h32 (fun j hj => by rw [uA_2, if_neg (by decide)]; exact hrd2 j hj) (hT2.fr (fs := []) (js := [7]) (Fr9.rf.uA (by simp)) (by decide) (by decide)) (hF2.uA (by simp))
                        · exact absurd rfl h116
                  · have ho := hoks i hg.1
                    unfold okL at ho
                    simp only [decide_eq_true_eq] at ho
                    rw [if_neg hg.2, nI_eq (by omega) (by decide)] at h60
                    exfalso; omega
          · have hg : ¬ i < tx.1 := hin
            refine go_iload_n (i := 2) (pc := 38) dX12_line_38 rfl rfl ?_
            refine go_bipush (nI 12) (pc := 39) dX12_line_39 (by decide) ?_
            refine go_icmp_ge 134 (pc := 41) dX12_line_41 (by decide) (fun h41 => ?_) (fun h41 => ?_)
            · first | rw [nI_leI (by omega) (by omega)] at h41 | rw [zi_leN (by omega)] at h41 | rw [zi_Nle (by omega)] at h41 | rw [zi_le] at h41
              exfalso; omega
            · first | rw [nI_leI (by omega) (by omega)] at h41 | rw [zi_leN (by omega)] at h41 | rw [zi_Nle (by omega)] at h41 | rw [zi_le] at h41
              refine go_iload_n (i := 2) (pc := 44) dX12_line_44 rfl rfl ?_
              refine go_aload_n (i := 0) (pc := 45) dX12_line_45 rfl rfl ?_
              refine go_geti fl_X12_13 (pc := 46) dX12_line_46 (by rfl) ?_
              rw [h3]
              refine go_icmp_ge 67 (pc := 49) dX12_line_49 (by decide) (fun h49 => ?_) (fun h49 => ?_)
              · first | rw [nI_leI (by omega) (by omega)] at h49 | rw [zi_leN (by omega)] at h49 | rw [zi_Nle (by omega)] at h49 | rw [zi_le] at h49
                refine go_iconst (nI 0) (pc := 67) dX12_line_67 (by decide) ?_
                refine go_istore_n (i := 3) (pc := 68) dX12_line_68 rfl (by decide) ?_
                refine go_aload_n (i := 0) (pc := 69) dX12_line_69 rfl rfl ?_
                refine go_getr2 fl_X12_36 (pc := 70) dX12_line_70 (by rfl) (by rfl) (by rfl) ?_
                refine go_iload_n (i := 2) (pc := 73) dX12_line_73 rfl rfl ?_
                refine go_iload_n (i := 2) (pc := 74) dX12_line_74 rfl rfl ?_
                refine go_aload_n (i := 0) (pc := 75) dX12_line_75 rfl rfl ?_
                refine go_geti fl_X12_13 (pc := 76) dX12_line_76 (by rfl) ?_
                rw [h3]
                refine go_icmp_ge 95 (pc := 79) dX12_line_79 (by decide) (fun h79 => ?_) (fun h79 => ?_)
                · first | rw [nI_leI (by omega) (by omega)] at h79 | rw [zi_leN (by omega)] at h79 | rw [zi_Nle (by omega)] at h79 | rw [zi_le] at h79
                  refine go_iconst (nI 0) (pc := 95) dX12_line_95 (by decide) ?_
                  refine go_top (congrArg (fun z => Value.int (nI z)) (show (0 : Nat) = (hvL tx.2 tx.1 i) from (if_neg (fun q => hg q.1)).symm)) ?_
                  refine go_iastore i (pc := 96) dX12_line_96 rfl rfl rfl (by omega) ?_
                  have hR1 := hR.up (i := i) (v := (hvL tx.2 tx.1 i))
                  have hT1 : TapeIs (uA τ 33 7 (upd (τ.2.1 33 7) i (nI (hvL tx.2 tx.1 i)))) 0 tx.2 := hTt.fr (fs := []) (js := [7]) (Fr9.rf.uA (by simp)) (by decide) (by decide)
                  have hF1 : Fr9 [0, 3, 15, 16, 17, 18, 20, 29] [7, 10, 25] σ (uA τ 33 7 (upd (τ.2.1 33 7) i (nI (hvL tx.2 tx.1 i)))) := hF.uA (by simp)
                  have h31 : (uA τ 33 7 (upd (τ.2.1 33 7) i (nI (hvL tx.2 tx.1 i)))).1 33 3 = nI tx.1 := h3
                  have hrd1 : ∀ j, j < tx.1 → (uA τ 33 7 (upd (τ.2.1 33 7) i (nI (hvL tx.2 tx.1 i)))).2.1 33 10 j = nI ((fun i => if tx.2 i = 71 then 10 else tx.2 i - 48) j) := fun j hj => by rw [uA_2, if_neg (by decide)]; exact hrd j hj
                  generalize uA τ 33 7 (upd (τ.2.1 33 7) i (nI (hvL tx.2 tx.1 i))) = τ1 at hR1 hT1 hF1 h31 hrd1 ⊢
                  refine go_aload_n (i := 0) (pc := 97) dX12_line_97 rfl rfl ?_
                  refine go_getr2 fl_X12_36 (pc := 98) dX12_line_98 (by rfl) (by rfl) (by rfl) ?_
                  refine go_bipush (nI 12) (pc := 101) dX12_line_101 (by decide) ?_
                  refine go_iload_n (i := 2) (pc := 103) dX12_line_103 rfl rfl ?_
                  first | with_reducible refine go_iaddN (pc := 104) dX12_line_104 ?_ | refine go_iadd (pc := 104) dX12_line_104 ?_
                  refine go_iconst (nI 0) (pc := 105) dX12_line_105 (by decide) ?_
                  refine go_iastore (12 + i) (pc := 106) dX12_line_106 rfl rfl rfl (by omega) ?_
                  have hR2 := hR1.up (i := 12 + i) (v := 0)
                  have hT2 : TapeIs (uA τ1 33 7 (upd (τ1.2.1 33 7) (12 + i) (nI 0))) 0 tx.2 := hT1.fr (fs := []) (js := [7]) (Fr9.rf.uA (by simp)) (by decide) (by decide)
                  have hF2 : Fr9 [0, 3, 15, 16, 17, 18, 20, 29] [7, 10, 25] σ (uA τ1 33 7 (upd (τ1.2.1 33 7) (12 + i) (nI 0))) := hF1.uA (by simp)
                  have h32 : (uA τ1 33 7 (upd (τ1.2.1 33 7) (12 + i) (nI 0))).1 33 3 = nI tx.1 := h31
                  have hrd2 : ∀ j, j < tx.1 → (uA τ1 33 7 (upd (τ1.2.1 33 7) (12 + i) (nI 0))).2.1 33 10 j = nI ((fun i => if tx.2 i = 71 then 10 else tx.2 i - 48) j) := fun j hj => by rw [uA_2, if_neg (by decide)]; exact hrd1 j hj
                  generalize uA τ1 33 7 (upd (τ1.2.1 33 7) (12 + i) (nI 0)) = τ2 at hR2 hT2 hF2 h32 hrd2 ⊢
                  have e24 : va_up (va_up (lnR tx.2 ld.2 tx.1 i) i (hvL tx.2 tx.1 i)) (12 + i) 0 24 = gBL tx.2 tx.1 i := by rw [va_at', if_neg (by omega), va_at', if_neg (by omega)]; unfold lnR; rw [if_neg (by decide), if_neg (by decide), if_pos rfl]
                  refine go_aload_n (i := 0) (pc := 107) dX12_line_107 rfl rfl ?_
                  refine go_getr2 fl_X12_36 (pc := 108) dX12_line_108 (by rfl) (by rfl) (by rfl) ?_
                  refine go_bipush (nI 24) (pc := 111) dX12_line_111 (by decide) ?_
                  refine go_dup2 (pc := 113) dX12_line_113 rfl rfl ?_
                  refine go_iaload 24 (pc := 114) dX12_line_114 rfl rfl rfl (by decide) ?_
                  rw [hR2 24 (by decide), e24]
                  refine go_iload_n (i := 3) (pc := 115) dX12_line_115 rfl rfl ?_
                  refine go_if_eq 125 (pc := 116) dX12_line_116 (by decide) (fun h116 => ?_) (fun h116 => ?_)
                  · refine go_iconst (nI 0) (pc := 125) dX12_line_125 (by decide) ?_
                    refine go_ior (pc := 126) dX12_line_126 ?_
                    rw [zorN, Nat.or_zero]
                    have eg : gBL tx.2 tx.1 i = gBL tx.2 tx.1 (i + 1) := by unfold gBL; rw [sumN, if_neg (by simp; intro q; first | (exact hg.2) | (exact fun _ => hg q) | (exact absurd q hg)), Nat.add_zero]
                    refine go_top (congrArg (fun z => Value.int (nI z)) eg) ?_
                    refine go_iastore 24 (pc := 127) dX12_line_127 rfl rfl rfl (by decide) ?_
                    refine go_iincN (pc := 128) dX12_line_128 rfl (by decide) ?_
                    refine go_goto 38 (pc := 131) dX12_line_131 (by decide) ?_
                    refine go_drop [0, 1, 2] rfl ?_
                    exact ih (12 - (i + 1)) (by omega) (i + 1) rfl _ (by omega) (by rw [← lnR_up (by omega)]; exact hR2.up) h32 (fun j hj => by rw [uA_2, if_neg (by decide)]; exact hrd2 j hj) (hT2.fr (fs := []) (js := [7]) (Fr9.rf.uA (by simp)) (by decide) (by decide)) (hF2.uA (by simp))
                  · exact absurd rfl h116
                · first | rw [nI_leI (by omega) (by omega)] at h79 | rw [zi_leN (by omega)] at h79 | rw [zi_Nle (by omega)] at h79 | rw [zi_le] at h79
                  exfalso; omega
              · first | rw [nI_leI (by omega) (by omega)] at h49 | rw [zi_leN (by omega)] at h49 | rw [zi_Nle (by omega)] at h49 | rw [zi_le] at h49
                exfalso; omega
    intro τ h20 hrd hTt h7 hF
    refine go_aload_n (i := 0) (pc := 20) dX12_line_20 rfl rfl ?_
    refine go_aload_n (i := 0) (pc := 21) dX12_line_21 rfl rfl ?_
    refine go_geti fl_X12_169 (pc := 22) dX12_line_22 (by rfl) ?_
    rw [h20]
    refine go_puti fp_X12_13 (pc := 25) dX12_line_25 (by rfl) rfl rfl ?_
    refine go_aload_n (i := 0) (pc := 28) dX12_line_28 rfl rfl ?_
    refine go_getr2 fl_X12_36 (pc := 29) dX12_line_29 (by rfl) (by rfl) (by rfl) ?_
    refine go_bipush (nI 24) (pc := 32) dX12_line_32 (by decide) ?_
    refine go_iconst (nI 0) (pc := 34) dX12_line_34 (by decide) ?_
    refine go_iastore 24 (pc := 35) dX12_line_35 rfl rfl rfl (by decide) ?_
    refine go_iconst (nI 0) (pc := 36) dX12_line_36 (by decide) ?_
    refine go_istore_n (i := 2) (pc := 37) dX12_line_37 rfl (by decide) ?_
    refine lo1 0 _ (Nat.zero_le _) ?_ (by rw [uA_1]; exact uS_s _ _ _ _) (fun j hj => by rw [uA_2, if_neg (by decide)]; exact hrd j hj) (hTt.fr (fs := [3]) (js := [7]) ((Fr9.rf.uS (by simp)).uA (by simp)) (by decide) (by decide)) ((hF.uS (by simp)).uA (by simp))
    refine (h7.uS.up (i := 24) (v := 0)).cg (fun q hq => ?_)
    rw [va_at']
    unfold lnR
    by_cases h24 : q = 24
    · rw [if_pos h24, if_neg (by omega), if_neg (by omega), if_pos h24]; rfl
    · rw [if_neg h24]
      by_cases h12q : q < 12
      · rw [if_pos h12q, if_neg (Nat.not_lt_zero _)]
      · rw [if_neg h12q]
        by_cases h24q : q < 24
        · rw [if_pos h24q, if_neg (by omega)]
        · rw [if_neg h24q, if_neg h24]
  refine go_aload_n (i := 0) (pc := 0) dX12_line_0 rfl rfl ?_
  refine go_iconst (nI 0) (pc := 1) dX12_line_1 (by decide) ?_
  refine go_puti fp_X12_97 (pc := 2) dX12_line_2 (by rfl) rfl rfl ?_
  have hF0 : Fr9 [0] [] σ (uS σ 33 0 (nI 0)) := Fr9.rf.uS (by simp)
  refine go_aload_n (i := 0) (pc := 5) dX12_line_5 rfl rfl ?_
  refine go_ldcS 0 rfl rfl (pc := 6) dX12_line_6 ?_
  refine go_bipush (nI 12) (pc := 8) dX12_line_8 (by decide) ?_
  refine go_callV ml_X12_177 mt_X12_readsSigns (pc := 10) dX12_line_10 (c_X12_readsSigns (ok := okL tx.2) (val := (fun i => if tx.2 i = 71 then 10 else tx.2 i - 48)) (hT.fr hF0 (by decide) (by decide)) (by decide) (by decide) hokL) (by rfl) rfl (by rfl) (by decide) (by decide) rfl rfl (Nat.le_of_ble_eq_true rfl) (fun r σ' hp => ?_)
  obtain ⟨rfl, h20, hrd, hTt, hFd⟩ := hp
  dsimp only [zRet]
  refine go_istore_n (i := 1) (pc := 13) dX12_line_13 rfl (by decide) ?_
  have hF1 := hF0.mono (fs2 := [0, 15, 16, 17, 18, 20]) (js2 := [10]) (by simp) (by simp)
  have hF2 := hF1.tr (hFd.mono (by simp) (by simp))
  have hn12 := rlU_le (okL tx.2) (min tx.1 12)
  cases hq : linF tx.1 tx.2 with
  | some q =>
    have hfl : flt (rlU (okL tx.2) (min tx.1 12)) tx.1 = some q := hq
    rw [hfl]
    refine go_iload_n (i := 1) (pc := 14) dX12_line_14 rfl rfl ?_
    refine go_if_ge 20 (pc := 15) dX12_line_15 (by decide) (fun h15 => ?_) (fun h15 => ?_)
    · exfalso
      rw [zi_ge0] at h15
      have := (flt_s hfl).1
      have := mF_nn (q := q) (by omega)
      dsimp only at h15
      omega
    · refine go_iload_n (i := 1) (pc := 18) dX12_line_18 rfl rfl ?_
      refine go_ireturn (pc := 19) dX12_line_19 rfl ?_
      exact ⟨rfl, ⟨(hC.1).fr hF2 (by decide) (by decide), hTt, (hC.2.2.1).fr hF2 (by decide) (by decide) (by decide), (hC.2.2.2.1).fr hF2 (by decide) (by decide), (hC.2.2.2.2.1).fr hF2 (by decide) (by decide) (by decide), (hC.2.2.2.2.2.1).fr hF2 (by decide) (by decide), (hC.2.2.2.2.2.2.1).fr hF2 (by decide) (by decide), (hC.2.2.2.2.2.2.2.1).fr hF2 (by decide) (by decide), (hC.2.2.2.2.2.2.2.2.1).fr hF2 (by decide) (by decide) (by decide), (hC.2.2.2.2.2.2.2.2.2).fr hF2 (by decide) (by decide)⟩, hF2.1⟩
  | none =>
    have hfl : flt (rlU (okL tx.2) (min tx.1 12)) tx.1 = none := hq
    have hfn := flt_n hfl
    have hNL : rlU (okL tx.2) (min tx.1 12) = tx.1 := by omega
    have hoks : ∀ i, i < tx.1 → okL tx.2 i = true := rlU_all (by rw [show min tx.1 12 = tx.1 by omega] at hNL; exact hNL)
    rw [hfl]
    rw [hNL] at h20 hrd
    dsimp only
    refine go_iload_n (i := 1) (pc := 14) dX12_line_14 rfl rfl ?_
    refine go_if_ge 20 (pc := 15) dX12_line_15 (by decide) (fun h15 => ?_) (fun h15 => ?_)
    · exact main (by omega) (by omega) hoks _ h20 hrd hTt (hN.2.2.fr hF2 (by decide)) (hF2.mono (by simp) (by simp))
    · exact absurd (by decide) h15

theorem c_X12_weather {E : zE} {σ : zT} {tx : Nat × (Nat → Nat)} {bd : Nat × (Nat → Nat) × (Nat → Nat)} {sk : Nat × (Nat → Nat)} {tw : Nat × (Nat → Nat) × (Nat → Nat)} {xs : List Nat} {ld : Nat × (Nat → Nat)} {pa sh : Nat × (Nat → Nat → Nat)} {ru : Nat × (Nat → Nat) × (Nat → Nat)} {to : Nat × (Nat → Int64)} (hC : RefIs σ tx bd sk tw xs ld pa sh ru to) : CalM E 7 yX12_weather cX12_weather 3 (some .int) [.ref (zA E 33 0)] σ (fun r σ' => r = some (.int (match skyF tx.1 tx.2 with | none => nI tx.1 | some q => mF q)) ∧ RefIs σ' (0, tx.2) bd (match skyF tx.1 tx.2 with | none => (tx.1, fun i => wcC (tx.2 i)) | some _ => sk) tw xs ld pa sh ru to ∧ FrG [33] σ σ') := by
  refine cal_of_go (own := RX12) rfl (by decide +kernel) (Nat.le_of_ble_eq_true rfl) ?_
  have hT := hC.2.1
  have hL := hT.2.1
  have hokW : ∀ i, i < 80 → am 1 (tx.2 i) = if okW tx.2 i = true then some (wcC (tx.2 i)) else none := fun i hi => by
    rw [am_1 _ (hT.2.2 i hi).2]
    unfold okW
    by_cases h : tx.2 i = 102 ∨ tx.2 i = 100 ∨ tx.2 i = 114 ∨ tx.2 i = 97
    · rw [if_pos h, if_pos (decide_eq_true h)]
    · rw [if_neg h, if_neg (by rw [decide_eq_false h]; decide)]
  have main : 1 ≤ tx.1 → tx.1 ≤ 20 → (∀ i, i < tx.1 → okW tx.2 i = true) → ∀ τ, τ.1 33 20 = nI tx.1 → (∀ j, j < tx.1 → τ.2.1 33 10 j = nI (wcC (tx.2 j))) → TapeIs τ 0 tx.2 → Fr9 [0, 6, 15, 16, 17, 18, 20] [2, 10] σ τ → GoM E 7 RX12 cX12_weather 3 (some .int) (fun r σ' => r = some (.int (nI tx.1)) ∧ RefIs σ' (0, tx.2) bd (tx.1, fun i => wcC (tx.2 i)) tw xs ld pa sh ru to ∧ FrG [33] σ σ') τ 20 [(0, .ref (zA E 33 0)), (1, .int (nI 0))] [] := by
    intro h1 h20b hoks
    have lo : ∀ (i : Nat) (τ : zT), i ≤ tx.1 → τ.1 33 6 = nI tx.1 → (∀ j, j < i → τ.2.1 33 2 j = nI (wcC (tx.2 j))) → (∀ j, j < tx.1 → τ.2.1 33 10 j = nI (wcC (tx.2 j))) → TapeIs τ 0 tx.2 → Fr9 [0, 6, 15, 16, 17, 18, 20] [2, 10] σ τ → GoM E 7 RX12 cX12_weather 3 (some .int) (fun r σ' => r = some (.int (nI tx.1)) ∧ RefIs σ' (0, tx.2) bd (tx.1, fun i => wcC (tx.2 i)) tw xs ld pa sh ru to ∧ FrG [33] σ σ') τ 30 [(0, .ref (zA E 33 0)), (1, .int (nI 0)), (2, .int (nI i))] [] := by
      intro i
      induction hz : tx.1 - i using Nat.strongRecOn generalizing i with
      | ind z ih =>
        intro τ hi h6 hs hrd hTt hF
        refine go_iload_n (i := 2) (pc := 30) dX12_weather_30 rfl rfl ?_
        refine go_aload_n (i := 0) (pc := 31) dX12_weather_31 rfl rfl ?_
        refine go_geti fl_X12_17 (pc := 32) dX12_weather_32 (by rfl) ?_
        rw [h6]
        refine go_icmp_ge 56 (pc := 35) dX12_weather_35 (by decide) (fun h35 => ?_) (fun h35 => ?_)
        · first | rw [nI_leI (by omega) (by omega)] at h35 | rw [zi_leN (by omega)] at h35 | rw [zi_Nle (by omega)] at h35 | rw [zi_le] at h35
          have e : i = tx.1 := by omega
          subst e
          refine go_aload_n (i := 0) (pc := 56) dX12_weather_56 rfl rfl ?_
          refine go_geti fl_X12_17 (pc := 57) dX12_weather_57 (by rfl) ?_
          rw [h6]
          refine go_ireturn (pc := 60) dX12_weather_60 rfl ?_
          exact ⟨rfl, ⟨(hC.1).fr hF (by decide) (by decide), hTt, (hC.2.2.1).fr hF (by decide) (by decide) (by decide), ⟨h1, h20b, h6, fun q hq => ⟨hs q hq, (skS_wc (by have ho := hoks q hq; unfold okW at ho; simpa only [decide_eq_true_eq] using ho)).2⟩⟩, (hC.2.2.2.2.1).fr hF (by decide) (by decide) (by decide), (hC.2.2.2.2.2.1).fr hF (by decide) (by decide), (hC.2.2.2.2.2.2.1).fr hF (by decide) (by decide), (hC.2.2.2.2.2.2.2.1).fr hF (by decide) (by decide), (hC.2.2.2.2.2.2.2.2.1).fr hF (by decide) (by decide) (by decide), (hC.2.2.2.2.2.2.2.2.2).fr hF (by decide) (by decide)⟩, hF.1⟩
        · first | rw [nI_leI (by omega) (by omega)] at h35 | rw [zi_leN (by omega)] at h35 | rw [zi_Nle (by omega)] at h35 | rw [zi_le] at h35
          refine go_aload_n (i := 0) (pc := 38) dX12_weather_38 rfl rfl ?_
          refine go_getr2 fl_X12_20 (pc := 39) dX12_weather_39 (by rfl) (by rfl) (by rfl) ?_
          refine go_iload_n (i := 2) (pc := 42) dX12_weather_42 rfl rfl ?_
          refine go_aload_n (i := 0) (pc := 43) dX12_weather_43 rfl rfl ?_
          refine go_getr2 fl_X12_45 (pc := 44) dX12_weather_44 (by rfl) (by rfl) (by rfl) ?_
          refine go_iload_n (i := 2) (pc := 47) dX12_weather_47 rfl rfl ?_
          refine go_iaload _ (pc := 48) dX12_weather_48 (by first | rfl | (apply zM_ar <;> assumption)) (by first | rfl | (apply zM_jn <;> assumption)) rfl (by first | assumption | omega) ?_
          rw [hrd i (by omega)]
          refine go_iastore i (pc := 49) dX12_weather_49 rfl rfl rfl (by omega) ?_
          refine go_iincN (pc := 50) dX12_weather_50 rfl (by decide) ?_
          refine go_goto 30 (pc := 53) dX12_weather_53 (by decide) ?_
          exact ih (tx.1 - (i + 1)) (by omega) (i + 1) rfl _ (by omega) h6 (fun j hj => by rw [uA_s, upd_at]; split; (rename_i e; rw [e]); exact hs j (by omega)) (fun j hj => by rw [uA_2, if_neg (by decide)]; exact hrd j hj) (hTt.fr (fs := []) (js := [2]) (Fr9.rf.uA (by simp)) (by decide) (by decide)) (hF.uA (by simp))
    intro τ h20 hrd hTt hF
    refine go_aload_n (i := 0) (pc := 20) dX12_weather_20 rfl rfl ?_
    refine go_aload_n (i := 0) (pc := 21) dX12_weather_21 rfl rfl ?_
    refine go_geti fl_X12_169 (pc := 22) dX12_weather_22 (by rfl) ?_
    rw [h20]
    refine go_puti fp_X12_17 (pc := 25) dX12_weather_25 (by rfl) rfl rfl ?_
    refine go_iconst (nI 0) (pc := 28) dX12_weather_28 (by decide) ?_
    refine go_istore_n (i := 2) (pc := 29) dX12_weather_29 rfl (by decide) ?_
    exact lo 0 _ (Nat.zero_le _) (uS_s _ _ _ _) (fun j hj => absurd hj (Nat.not_lt_zero _)) hrd (hTt.fr (fs := [6]) (js := []) (Fr9.rf.uS (by simp)) (by decide) (by decide)) (hF.uS (by simp))
  refine go_aload_n (i := 0) (pc := 0) dX12_weather_0 rfl rfl ?_
  refine go_iconst (nI 0) (pc := 1) dX12_weather_1 (by decide) ?_
  refine go_puti fp_X12_97 (pc := 2) dX12_weather_2 (by rfl) rfl rfl ?_
  have hF0 : Fr9 [0] [] σ (uS σ 33 0 (nI 0)) := Fr9.rf.uS (by simp)
  refine go_aload_n (i := 0) (pc := 5) dX12_weather_5 rfl rfl ?_
  refine go_ldcS 1 rfl rfl (pc := 6) dX12_weather_6 ?_
  refine go_bipush (nI 20) (pc := 8) dX12_weather_8 (by decide) ?_
  refine go_callV ml_X12_177 mt_X12_readsSigns (pc := 10) dX12_weather_10 (c_X12_readsSigns (ok := okW tx.2) (val := fun i => wcC (tx.2 i)) (hT.fr hF0 (by decide) (by decide)) (by decide) (by decide) hokW) (by rfl) rfl (by rfl) (by decide) (by decide) rfl rfl (Nat.le_of_ble_eq_true rfl) (fun r σ' hp => ?_)
  obtain ⟨rfl, h20, hrd, hTt, hFd⟩ := hp
  dsimp only [zRet]
  refine go_istore_n (i := 1) (pc := 13) dX12_weather_13 rfl (by decide) ?_
  have hF1 := hF0.mono (fs2 := [0, 15, 16, 17, 18, 20]) (js2 := [10]) (by simp) (by simp)
  have hF2 := hF1.tr (hFd.mono (by simp) (by simp))
  have hn20 := rlU_le (okW tx.2) (min tx.1 20)
  cases hq : skyF tx.1 tx.2 with
  | some q =>
    have hfl : flt (rlU (okW tx.2) (min tx.1 20)) tx.1 = some q := hq
    rw [hfl]
    refine go_iload_n (i := 1) (pc := 14) dX12_weather_14 rfl rfl ?_
    refine go_if_ge 20 (pc := 15) dX12_weather_15 (by decide) (fun h15 => ?_) (fun h15 => ?_)
    · exfalso
      rw [zi_ge0] at h15
      have := (flt_s hfl).1
      have := mF_nn (q := q) (by omega)
      dsimp only at h15
      omega
    · refine go_iload_n (i := 1) (pc := 18) dX12_weather_18 rfl rfl ?_
      refine go_ireturn (pc := 19) dX12_weather_19 rfl ?_
      exact ⟨rfl, ⟨(hC.1).fr hF2 (by decide) (by decide), hTt, (hC.2.2.1).fr hF2 (by decide) (by decide) (by decide), (hC.2.2.2.1).fr hF2 (by decide) (by decide), (hC.2.2.2.2.1).fr hF2 (by decide) (by decide) (by decide), (hC.2.2.2.2.2.1).fr hF2 (by decide) (by decide), (hC.2.2.2.2.2.2.1).fr hF2 (by decide) (by decide), (hC.2.2.2.2.2.2.2.1).fr hF2 (by decide) (by decide), (hC.2.2.2.2.2.2.2.2.1).fr hF2 (by decide) (by decide) (by decide), (hC.2.2.2.2.2.2.2.2.2).fr hF2 (by decide) (by decide)⟩, hF2.1⟩
  | none =>
    have hfl : flt (rlU (okW tx.2) (min tx.1 20)) tx.1 = none := hq
    have hfn := flt_n hfl
    have hNL : rlU (okW tx.2) (min tx.1 20) = tx.1 := by omega
    have hoks : ∀ i, i < tx.1 → okW tx.2 i = true := rlU_all (by rw [show min tx.1 20 = tx.1 by omega] at hNL; exact hNL)
    rw [hfl]
    rw [hNL] at h20 hrd
    dsimp only
    refine go_iload_n (i := 1) (pc := 14) dX12_weather_14 rfl rfl ?_
    refine go_if_ge 20 (pc := 15) dX12_weather_15 (by decide) (fun h15 => ?_) (fun h15 => ?_)
    · exact main (by omega) (by omega) hoks _ h20 hrd hTt (hF2.mono (by simp) (by simp))
    · exact absurd (by decide) h15

