theorem crs_om0 {V : zV} {st : Nat} {ρ : Nat → Nat} (hV : VOK V) (hok : RowOK (vN V) ρ) (j : Nat) (hj : j ≤ vC V) : ∀ m, vN V ≤ m → (crs V st ρ j).2.2.1 m = 0 := by
  induction j with
  | zero => exact fun _ _ => rfl
  | succ j ih =>
    intro m hm
    have ih := ih (by omega)
    have hk := (crs_ok (st := st) hV hok j (by omega)).1
    by_cases hs : st.testBit j = true
    · rw [crs_n (Or.inl hs)]; exact ih m hm
    · cases hg : gos V (crs V st ρ j).2.2.2 j with
      | none => rw [crs_n (Or.inr hg)]; exact ih m hm
      | some b =>
        have hb := gos_lt hV hk hg
        rw [crs_s hs hg]
        dsimp only
        split
        · exact ih m hm
        · rw [va_at', if_neg (by omega)]; exact ih m hm
theorem bsy_0 {om : Nat → Nat} {n : Nat} (h : ∀ m, n ≤ m → om m = 0) (k : Nat) : bsy om (n + k) = bsy om n := by
  induction k with
  | zero => rfl
  | succ k ih => rw [← Nat.add_assoc, bsy, h _ (by omega), if_neg (by omega), ih]
theorem bsy_b {om : Nat → Nat} {B : Nat} (h : ∀ i, om i ≤ B) : ∀ n, (bsy om n).2 ≤ B ∧ ∀ q, (bsy om n).1 = some q → q < n
  | 0 => ⟨Nat.zero_le _, fun q h => by cases h⟩
  | n + 1 => by
    have ih := bsy_b h n
    unfold bsy
    split
    · exact ⟨h n, fun q e => by cases e; omega⟩
    · exact ⟨ih.1, fun q e => by have := ih.2 q e; omega⟩
/-- nobody goes just where nothing comes over -/
theorem crs_bz {V : zV} {st : Nat} {ρ : Nat → Nat} (hV : VOK V) (hok : RowOK (vN V) ρ) (j : Nat) (hj : j ≤ vC V) : (crs V st ρ j).1 = 0 ↔ (crs V st ρ j).2.1 = 0 := by
  induction j with
  | zero => exact ⟨fun _ => rfl, fun _ => rfl⟩
  | succ j ih =>
    have ih := ih (by omega)
    by_cases hs : st.testBit j = true
    · rw [crs_n (Or.inl hs)]; exact ih
    · cases hg : gos V (crs V st ρ j).2.2.2 j with
      | none => rw [crs_n (Or.inr hg)]; exact ih
      | some b =>
        rw [crs_s hs hg]
        have h1 := (hV.2.2.2.1 j (by omega)).2.1
        have h2 : 0 < 2 ^ j := Nat.pow_pos (by decide)
        dsimp only
        omega
theorem wk1_bz {V : zV} {ρ : Nat → Nat} (hV : VOK V) (hok : RowOK (vN V) ρ) : (wk1 V ρ).1 = 0 ↔ (wk1 V ρ).2.1 = 0 := crs_bz hV hok (vC V) (Nat.le_refl _)
/-! keeps -/
theorem dng_26 {V : zV} {ρ : Nat → Nat} {c m v : Nat} (hn : vN V ≤ 12) (hm : m < 12) : dng V (va_up ρ 26 v) c m = dng V ρ c m := by
  have e : ∀ i, i ≠ 26 → va_up ρ 26 v i = ρ i := fun i hi => by rw [va_at', if_neg hi]
  unfold dng
  rw [show menSum (vN V) (va_up ρ 26 v) = menSum (vN V) ρ from sumN_congr (fun i hi => e _ (by omega)), e 24 (by omega), e 27 (by omega), e m (by omega), e (12 + m) (by omega), show menOth (vN V) (va_up ρ 26 v) m = menOth (vN V) ρ m from sumN_congr (fun i hi => by rw [e _ (by omega)])]
theorem saf_26 {V : zV} {ρ : Nat → Nat} {c v : Nat} (hn : vN V ≤ 12) : ∀ j, j ≤ 12 → saf V (va_up ρ 26 v) c j = saf V ρ c j
  | 0, _ => rfl
  | j + 1, h => by rw [saf, saf, saf_26 hn j (by omega), dng_26 hn (by omega)]
theorem gain_26 {V : zV} {ρ : Nat → Nat} {c v : Nat} : gain V (va_up ρ 26 v) c = (vL V c : Int) * ((v : Int) - (ρ 25 : Int)) := by
  unfold gain
  rw [va_at', va_at', if_pos rfl, if_neg (by decide)]
theorem kp_1 {l x p v : Nat} (hl : 1 ≤ l) : (l : Int) * ((v : Int) - (p : Int)) ≤ (x : Int) ↔ v ≤ p + x / l := by
  have hd := Nat.div_add_mod x l
  have hm := Nat.mod_lt x (show l > 0 by omega)
  constructor
  · intro h
    by_cases hv : v ≤ p + x / l
    · exact hv
    · exfalso
      obtain ⟨k, hk⟩ : ∃ k, v = p + x / l + 1 + k := ⟨v - (p + x / l + 1), by omega⟩
      have e : ((v : Int) - p) = ((x / l + 1 + k : Nat) : Int) := by omega
      rw [e, ← Int.natCast_mul] at h
      have h2 : l * (x / l + 1 + k) ≤ x := by exact_mod_cast h
      rw [Nat.mul_add, Nat.mul_add, Nat.mul_one] at h2
      have h3 := Nat.zero_le (l * k)
      omega
  · intro h
    by_cases hp : v ≤ p
    · have : (l : Int) * ((v : Int) - p) ≤ 0 := Int.mul_nonpos_of_nonneg_of_nonpos (by omega) (by omega)
      omega
    · obtain ⟨k, hk⟩ : ∃ k, v = p + k := ⟨v - p, by omega⟩
      subst hk
      have e : (((p + k : Nat) : Int) - p) = (k : Int) := by omega
      rw [e, ← Int.natCast_mul]
      have h2 : l * k ≤ l * (x / l) := Nat.mul_le_mul_left l (by omega)
      have h3 : l * k ≤ x := by omega
      exact_mod_cast h3
/-- the first j carriers stay at a price just where it is at most what keeps them -/
theorem kps_crs {V : zV} {ρ : Nat → Nat} {v : Nat} (hV : VOK V) (hv : v ≤ 99) : ∀ j, j ≤ vC V → ((crs V 0 (va_up ρ 26 v) j).2.1 = 0 ↔ v ≤ kpsC V ρ j) ∧ ((crs V 0 (va_up ρ 26 v) j).2.1 = 0 → (crs V 0 (va_up ρ 26 v) j).2.2.2 = va_up ρ 26 v)
  | 0, _ => ⟨⟨fun _ => hv, fun _ => rfl⟩, fun _ => rfl⟩
  | j + 1, hj => by
    obtain ⟨ih, ih2⟩ := kps_crs hV hv j (by omega)
    have hl := (hV.2.2.2.1 j (by omega)).2.1
    have h0 : ¬ (0 : Nat).testBit j = true := by simp
    by_cases hz : (crs V 0 (va_up ρ 26 v) j).2.1 = 0
    · have he : easy V (crs V 0 (va_up ρ 26 v) j).2.2.2 j = easy V ρ j := by rw [ih2 hz]; exact saf_26 hV.2.1 _ hV.2.1
      have hk := ih.mp hz
      cases hs : easy V ρ j with
      | none =>
        have hg : gos V (crs V 0 (va_up ρ 26 v) j).2.2.2 j = none := gos_none (by rw [he, hs])
        rw [crs_n (Or.inr hg), kpsC_n hs]
        exact ⟨ih, ih2⟩
      | some q =>
        obtain ⟨b, x⟩ := q
        have hg := gos_some (show easy V (crs V 0 (va_up ρ 26 v) j).2.2.2 j = some (b, x) by rw [he, hs])
        rw [ih2 hz, gain_26] at hg
        have hkp := kp_1 (x := x) (p := ρ 25) (v := v) hl
        rw [kpsC_s hs]
        by_cases hgo : (x : Int) < (vL V j : Int) * ((v : Int) - (ρ 25 : Int))
        · rw [if_pos hgo] at hg
          rw [← ih2 hz] at hg
          rw [crs_s h0 hg]
          dsimp only
          constructor
          · constructor
            · intro h; omega
            · intro h; omega
          · intro h; omega
        · rw [if_neg hgo] at hg
          rw [← ih2 hz] at hg
          rw [crs_n (Or.inr hg)]
          exact ⟨⟨fun _ => by omega, fun _ => hz⟩, ih2⟩
    · have hnk : ¬ v ≤ kpsC V ρ j := fun h => hz (ih.mpr h)
      have hmn : kpsC V ρ (j + 1) ≤ kpsC V ρ j := by
        cases hs : easy V ρ j with
        | none => rw [kpsC_n hs]; exact Nat.le_refl _
        | some q => obtain ⟨b, x⟩ := q; rw [kpsC_s hs]; omega
      have hge : ¬ (crs V 0 (va_up ρ 26 v) (j + 1)).2.1 = 0 := by
        cases hg : gos V (crs V 0 (va_up ρ 26 v) j).2.2.2 j with
        | none => rw [crs_n (Or.inr hg)]; exact hz
        | some b => rw [crs_s h0 hg]; dsimp only; omega
      exact ⟨⟨fun h => absurd h hge, fun h => absurd (show v ≤ kpsC V ρ j by omega) hnk⟩, fun h => absurd h hge⟩

theorem c_X12_goes {E : zE} {σ : zT} {tx : Nat × (Nat → Nat)} {bd : Nat × (Nat → Nat) × (Nat → Nat)} {sk : Nat × (Nat → Nat)} {tw : Nat × (Nat → Nat) × (Nat → Nat)} {xs : List Nat} {ld : Nat × (Nat → Nat)} {pa sh : Nat × (Nat → Nat → Nat)} {ru : Nat × (Nat → Nat) × (Nat → Nat)} {to : Nat × (Nat → Int64)} (hC : RefIs σ tx bd sk tw xs ld pa sh ru to) (hro : Roomy ld.2) : CalM E 8 yX12_goes cX12_goes 5 (some .int) [.ref (zA E 33 0)] σ (fun r σ' => r = some (.int (nI (crsA (vLd bd sk xs ld) 0 ld.2).1)) ∧ RefIs σ' tx bd sk tw xs ld pa sh ru (2, ln2 (lN (crsA (vLd bd sk xs ld) 0 ld.2).2.1) (gM (bsy (crsA (vLd bd sk xs ld) 0 ld.2).2.2.1 12).1).toInt64) ∧ FrG [33] σ σ') := by
  refine cal_of_go (own := RX12) rfl (by decide +kernel) (Nat.le_of_ble_eq_true rfl) ?_
  have hN := hC.2.2.2.2.2.1
  have hn : 1 ≤ ld.1 ∧ ld.1 ≤ 12 := ⟨hN.2.1.1, hN.2.1.2.1⟩
  have hV := hC.env.vok hN.2.1
  have hok := hN.2.1
  obtain ⟨k1, k2, k3, k4, k5⟩ := crs_ok (st := 0) hV hok (vC (vOf bd sk xs ld.1)) (Nat.le_refl _)
  have hl72 : (crsA (vOf bd sk xs ld.1) 0 ld.2).2.1 ≤ 72 := Nat.le_trans k3 (Nat.mul_le_mul_left 9 hV.2.2.1)
  have ho72 : ∀ i, (crsA (vOf bd sk xs ld.1) 0 ld.2).2.2.1 i ≤ 72 := fun i => Nat.le_trans (k5 i) (Nat.mul_le_mul_left 9 hV.2.2.1)
  have hb12 : bsy (crsA (vOf bd sk xs ld.1) 0 ld.2).2.2.1 12 = bsy (crsA (vOf bd sk xs ld.1) 0 ld.2).2.2.1 ld.1 := by
    have := bsy_0 (om := (crsA (vOf bd sk xs ld.1) 0 ld.2).2.2.1) (n := ld.1) (crs_om0 (st := 0) hV hok _ (Nat.le_refl _)) (12 - ld.1)
    rw [show ld.1 + (12 - ld.1) = 12 by omega] at this
    exact this
  have loop : ∀ (i : Nat) (τ : zT), i ≤ ld.1 → (∀ q, q < 12 → τ.2.1 33 16 q = nI ((crsA (vOf bd sk xs ld.1) 0 ld.2).2.2.1 q)) → (RwIs τ 8 (va_up (crsA (vOf bd sk xs ld.1) 0 ld.2).2.2.2 28 (ld.2 28 + (crsA (vOf bd sk xs ld.1) 0 ld.2).2.1))) → (Fr9 [0, 27, 28] [13, 14, 16, 8] σ τ) → GoM E 8 RX12 cX12_goes 5 (some .int) (fun r σ' => r = some (.int (nI (crsA (vLd bd sk xs ld) 0 ld.2).1)) ∧ RefIs σ' tx bd sk tw xs ld pa sh ru (2, ln2 (lN (crsA (vLd bd sk xs ld) 0 ld.2).2.1) (gM (bsy (crsA (vLd bd sk xs ld) 0 ld.2).2.2.1 12).1).toInt64) ∧ FrG [33] σ σ') τ 26 [(0, .ref (zA E 33 0)), (1, .int (nI (crsA (vOf bd sk xs ld.1) 0 ld.2).1)), (2, .int (gM (bsy (crsA (vOf bd sk xs ld.1) 0 ld.2).2.2.1 i).1)), (3, .int (nI (bsy (crsA (vOf bd sk xs ld.1) 0 ld.2).2.2.1 i).2)), (4, .int (nI i))] [] := by
    intro i
    induction hz : ld.1 - i using Nat.strongRecOn generalizing i with
    | ind z ih =>
      intro τ hi hO hR hF
      have hbb := (bsy_b ho72 i).1
      have h72 := ho72 i
      refine go_iload (pc := 26) dX12_goes_26 rfl ?_
      refine go_aload_n (i := 0) (pc := 28) dX12_goes_28 rfl rfl ?_
      refine go_geti fl_X12_13 (pc := 29) dX12_goes_29 (by rfl) ?_
      rw [(hC.fr hF (by decide) (by decide)).2.2.2.2.2.1.1]
      refine go_icmp_ge 71 (pc := 32) dX12_goes_32 (by decide) (fun h32 => ?_) (fun h32 => ?_)
      · first | rw [nI_leI (by omega) (by omega)] at h32 | rw [zi_leN (by omega)] at h32 | rw [zi_Nle (by omega)] at h32 | rw [zi_le] at h32
        have e : i = ld.1 := by omega
        subst e
        refine go_aload_n (i := 0) (pc := 71) dX12_goes_71 rfl rfl ?_
        refine go_iconst (nI 0) (pc := 72) dX12_goes_72 (by decide) ?_
        refine go_puti fp_X12_104 (pc := 73) dX12_goes_73 (by rfl) rfl rfl ?_
        have hFt : Fr9 [0, 1, 27, 28] [1, 13, 14, 16, 8] σ (uS τ 33 1 (nI 0)) := (hF.mono (by simp) (by simp)).uS (by simp)
        have hz1 : (uS τ 33 1 (nI 0)).1 33 1 = nI 0 := uS_s _ _ _ _
        refine go_aload_n (i := 0) (pc := 76) dX12_goes_76 rfl rfl ?_
        refine go_aload_n (i := 0) (pc := 77) dX12_goes_77 rfl rfl ?_
        refine go_getr2 fl_X12_39 (pc := 78) dX12_goes_78 (by rfl) (by rfl) (by rfl) ?_
        refine go_bipush (nI 28) (pc := 81) dX12_goes_81 (by decide) ?_
        refine go_iaload _ (pc := 83) dX12_goes_83 (by first | rfl | (apply zM_ar <;> assumption)) (by first | rfl | (apply zM_jn <;> assumption)) rfl (by first | assumption | omega) ?_
        rw [show (uS τ 33 1 (nI 0)).2.1 33 8 28 = _ from hR 28 (by decide), va_at', if_pos rfl]
        refine go_aload_n (i := 0) (pc := 84) dX12_goes_84 rfl rfl ?_
        refine go_getr2 fl_X12_36 (pc := 85) dX12_goes_85 (by rfl) (by rfl) (by rfl) ?_
        refine go_bipush (nI 28) (pc := 88) dX12_goes_88 (by decide) ?_
        refine go_iaload _ (pc := 90) dX12_goes_90 (by first | rfl | (apply zM_ar <;> assumption)) (by first | rfl | (apply zM_jn <;> assumption)) rfl (by first | assumption | omega) ?_
        rw [show (uS τ 33 1 (nI 0)).2.1 33 7 28 = _ from (hC.fr hF (by decide) (by decide)).2.2.2.2.2.1.2.2 28 (by decide)]
        first | with_reducible refine go_isubN (pc := 91) dX12_goes_91 (by omega) ?_ | refine go_isub (pc := 91) dX12_goes_91 ?_
        rw [Nat.add_sub_cancel_left]
        refine go_i2l (pc := 92) dX12_goes_92 ?_
        rw [nI_l (by omega)]
        refine go_callV ml_X12_333 mt_X12_enters (pc := 93) dX12_goes_93 (c_tell1 hz1) (by rfl) rfl (by rfl) (by decide) (by decide) rfl rfl (Nat.le_of_ble_eq_true rfl) (fun r σ' hp => ?_)
        obtain ⟨rfl, hT1, hF1⟩ := hp
        dsimp only [zRet]
        have hFu := hFt.tr (hF1.mono (by simp) (by simp))
        refine go_aload_n (i := 0) (pc := 96) dX12_goes_96 rfl rfl ?_
        refine go_iload_n (i := 2) (pc := 97) dX12_goes_97 rfl rfl ?_
        refine go_i2l (pc := 98) dX12_goes_98 ?_
        refine go_callV ml_X12_333 mt_X12_enters (pc := 99) dX12_goes_99 (c_tell2 hT1) (by rfl) rfl (by rfl) (by decide) (by decide) rfl rfl (Nat.le_of_ble_eq_true rfl) (fun r σ' hp => ?_)
        obtain ⟨rfl, hT2, hF2⟩ := hp
        dsimp only [zRet]
        have hFv := hFu.tr (hF2.mono (by simp) (by simp))
        refine go_iload_n (i := 1) (pc := 102) dX12_goes_102 rfl rfl ?_
        refine go_ireturn (pc := 103) dX12_goes_103 rfl ?_
        rw [hb12]
        exact ⟨rfl, hC.tell hFv (by decide) (by decide) hT2, hFv.1⟩
      · first | rw [nI_leI (by omega) (by omega)] at h32 | rw [zi_leN (by omega)] at h32 | rw [zi_Nle (by omega)] at h32 | rw [zi_le] at h32
        refine go_aload_n (i := 0) (pc := 35) dX12_goes_35 rfl rfl ?_
        refine go_getr2 fl_X12_63 (pc := 36) dX12_goes_36 (by rfl) (by rfl) (by rfl) ?_
        refine go_iload (pc := 39) dX12_goes_39 rfl ?_
        refine go_iaload _ (pc := 41) dX12_goes_41 (by first | rfl | (apply zM_ar <;> assumption)) (by first | rfl | (apply zM_jn <;> assumption)) rfl (by first | assumption | omega) ?_
        rw [hO i (by omega)]
        refine go_iload_n (i := 3) (pc := 42) dX12_goes_42 rfl rfl ?_
        refine go_icmp_le 51 (pc := 43) dX12_goes_43 (by decide) (fun h43 => ?_) (fun h43 => ?_)
        · first | rw [nI_leI (by omega) (by omega)] at h43 | rw [zi_leN (by omega)] at h43 | rw [zi_Nle (by omega)] at h43 | rw [zi_le] at h43
          have es : bsy (crsA (vOf bd sk xs ld.1) 0 ld.2).2.2.1 (i + 1) = bsy (crsA (vOf bd sk xs ld.1) 0 ld.2).2.2.1 i := by rw [bsy, if_neg (by omega)]
          have hm : max (bsy (crsA (vOf bd sk xs ld.1) 0 ld.2).2.2.1 i).2 ((crsA (vOf bd sk xs ld.1) 0 ld.2).2.2.1 i) = (bsy (crsA (vOf bd sk xs ld.1) 0 ld.2).2.2.1 i).2 := by omega
          refine go_iload_n (i := 2) (pc := 51) dX12_goes_51 rfl rfl ?_
          refine go_istore_n (i := 2) (pc := 52) dX12_goes_52 rfl (by decide) ?_
          refine go_iload_n (i := 3) (pc := 53) dX12_goes_53 rfl rfl ?_
          refine go_aload_n (i := 0) (pc := 54) dX12_goes_54 rfl rfl ?_
          refine go_getr2 fl_X12_63 (pc := 55) dX12_goes_55 (by rfl) (by rfl) (by rfl) ?_
          refine go_iload (pc := 58) dX12_goes_58 rfl ?_
          refine go_iaload _ (pc := 60) dX12_goes_60 (by first | rfl | (apply zM_ar <;> assumption)) (by first | rfl | (apply zM_jn <;> assumption)) rfl (by first | assumption | omega) ?_
          rw [hO i (by omega)]
          refine go_callS ml_X12_244 mt_J9_max_7cf53 (pc := 61) dX12_goes_61 (c_J9_maxN (by omega) (by omega)) (by decide) (by decide) rfl rfl (Nat.le_of_ble_eq_true rfl) (fun r σ' hp => ?_)
          obtain ⟨rfl, hσ⟩ := hp
          rw [hσ]
          clear hσ σ'
          dsimp only [zRet]
          refine go_istore_n (i := 3) (pc := 64) dX12_goes_64 rfl (by decide) ?_
          refine go_iincN (pc := 65) dX12_goes_65 rfl (by decide) ?_
          refine go_goto 26 (pc := 68) dX12_goes_68 (by decide) ?_
          rw [hm]
          first
            | (rw [← es]
               exact ih (ld.1 - (i + 1)) (by omega) (i + 1) rfl _ (by omega) hO hR hF)
            | (have h := ih (ld.1 - (i + 1)) (by omega) (i + 1) rfl _ (by omega) hO hR hF
               rw [es] at h
               exact h)
        · first | rw [nI_leI (by omega) (by omega)] at h43 | rw [zi_leN (by omega)] at h43 | rw [zi_Nle (by omega)] at h43 | rw [zi_le] at h43
          have es : bsy (crsA (vOf bd sk xs ld.1) 0 ld.2).2.2.1 (i + 1) = (some i, (crsA (vOf bd sk xs ld.1) 0 ld.2).2.2.1 i) := by rw [bsy, if_pos (by omega)]
          have hm : max (bsy (crsA (vOf bd sk xs ld.1) 0 ld.2).2.2.1 i).2 ((crsA (vOf bd sk xs ld.1) 0 ld.2).2.2.1 i) = (crsA (vOf bd sk xs ld.1) 0 ld.2).2.2.1 i := by omega
          refine go_iload (pc := 46) dX12_goes_46 rfl ?_
          refine go_goto 52 (pc := 48) dX12_goes_48 (by decide) ?_
          refine go_istore_n (i := 2) (pc := 52) dX12_goes_52 rfl (by decide) ?_
          refine go_iload_n (i := 3) (pc := 53) dX12_goes_53 rfl rfl ?_
          refine go_aload_n (i := 0) (pc := 54) dX12_goes_54 rfl rfl ?_
          refine go_getr2 fl_X12_63 (pc := 55) dX12_goes_55 (by rfl) (by rfl) (by rfl) ?_
          refine go_iload (pc := 58) dX12_goes_58 rfl ?_
          refine go_iaload _ (pc := 60) dX12_goes_60 (by first | rfl | (apply zM_ar <;> assumption)) (by first | rfl | (apply zM_jn <;> assumption)) rfl (by first | assumption | omega) ?_
          rw [hO i (by omega)]
          refine go_callS ml_X12_244 mt_J9_max_7cf53 (pc := 61) dX12_goes_61 (c_J9_maxN (by omega) (by omega)) (by decide) (by decide) rfl rfl (Nat.le_of_ble_eq_true rfl) (fun r σ' hp => ?_)
          obtain ⟨rfl, hσ⟩ := hp
          rw [hσ]
          clear hσ σ'
          dsimp only [zRet]
          refine go_istore_n (i := 3) (pc := 64) dX12_goes_64 rfl (by decide) ?_
          refine go_iincN (pc := 65) dX12_goes_65 rfl (by decide) ?_
          refine go_goto 26 (pc := 68) dX12_goes_68 (by decide) ?_
          rw [hm]
          first
            | (rw [← es]
               exact ih (ld.1 - (i + 1)) (by omega) (i + 1) rfl _ (by omega) hO hR hF)
            | (have h := ih (ld.1 - (i + 1)) (by omega) (i + 1) rfl _ (by omega) hO hR hF
               rw [es] at h
               exact h)
  refine go_aload_n (i := 0) (pc := 0) dX12_goes_0 rfl rfl ?_
  refine go_iconst (nI 0) (pc := 1) dX12_goes_1 (by decide) ?_
  refine go_puti fp_X12_97 (pc := 2) dX12_goes_2 (by rfl) rfl rfl ?_
  have hF : Fr9 [0, 27, 28] [13, 14, 16, 8] σ (uS σ 33 0 (nI 0)) := Fr9.rf.uS (by simp)
  refine go_aload_n (i := 0) (pc := 5) dX12_goes_5 rfl rfl ?_
  refine go_callV ml_X12_356 mt_X12_copies (pc := 6) dX12_goes_6 (c_X12_copies (hN.2.2.fr hF (by decide))) (by rfl) rfl (by rfl) (by decide) (by decide) rfl rfl (Nat.le_of_ble_eq_true rfl) (fun r σ' hp => ?_)
  obtain ⟨rfl, hw8, hFc⟩ := hp
  dsimp only [zRet]
  have hF := hF.tr (hFc.mono (by simp) (by simp))
  have hEc := (hC.fr hF (by decide) (by decide)).env
  refine go_aload_n (i := 0) (pc := 9) dX12_goes_9 rfl rfl ?_
  refine go_aload_n (i := 0) (pc := 10) dX12_goes_10 rfl rfl ?_
  refine go_getr2 fl_X12_39 (pc := 11) dX12_goes_11 (by rfl) (by rfl) (by rfl) ?_
  refine go_iconst (nI 0) (pc := 14) dX12_goes_14 (by decide) ?_
  refine go_callV ml_X12_295 mt_X12_crossings (pc := 15) dX12_goes_15 (c_X12_crossings (V := (vOf bd sk xs ld.1)) (j := 8) (st := 0) hEc hw8 hok rfl (by decide) (by omega)) (by rfl) rfl (by rfl) (by decide) (by decide) rfl rfl (Nat.le_of_ble_eq_true rfl) (fun r σ' hp => ?_)
  obtain ⟨rfl, hO, hR, hFd⟩ := hp
  dsimp only [zRet]
  have hF := hF.tr (hFd.mono (by simp) (by simp))
  refine go_istore_n (i := 1) (pc := 18) dX12_goes_18 rfl (by decide) ?_
  refine go_iconst (-1) (pc := 19) dX12_goes_19 (by decide) ?_
  refine go_istore_n (i := 2) (pc := 20) dX12_goes_20 rfl (by decide) ?_
  refine go_iconst (nI 0) (pc := 21) dX12_goes_21 (by decide) ?_
  refine go_istore_n (i := 3) (pc := 22) dX12_goes_22 rfl (by decide) ?_
  refine go_iconst (nI 0) (pc := 23) dX12_goes_23 (by decide) ?_
  refine go_istore (pc := 24) dX12_goes_24 (by decide) ?_
  exact loop 0 _ (by omega) hO hR hF

theorem c_X12_ahead {E : zE} {σ : zT} {tx : Nat × (Nat → Nat)} {bd : Nat × (Nat → Nat) × (Nat → Nat)} {sk : Nat × (Nat → Nat)} {tw : Nat × (Nat → Nat) × (Nat → Nat)} {xs : List Nat} {ld : Nat × (Nat → Nat)} {pa sh : Nat × (Nat → Nat → Nat)} {ru : Nat × (Nat → Nat) × (Nat → Nat)} {to : Nat × (Nat → Int64)} {n : Int32} (hC : RefIs σ tx bd sk tw xs ld pa sh ru to) (hro : Roomy ld.2) : CalM E 9 yX12_ahead cX12_ahead 4 (some .int) [.ref (zA E 33 0), .int n] σ (fun r σ' => r = some (.int (if in0 n 99 then nI (sWeeks bd sk xs ld n.toInt.toNat).2.2.1 else -1)) ∧ RefIs σ' tx bd sk tw xs ld pa sh ru (if in0 n 99 then (2, ln2 (lN (hedSum ld.1 (sWeeks bd sk xs ld n.toInt.toNat).2.2.2)) (lN (sWeeks bd sk xs ld n.toInt.toNat).2.1)) else to) ∧ FrG [33] σ σ') := by
  refine cal_of_go (own := RX12) rfl (by decide +kernel) (Nat.le_of_ble_eq_true rfl) ?_
  have hN := hC.2.2.2.2.2.1
  have hn : 1 ≤ ld.1 ∧ ld.1 ≤ 12 := ⟨hN.2.1.1, hN.2.1.2.1⟩
  have hV := hC.env.vok hN.2.1
  have hok := hN.2.1
  have main : ∀ n1 : Nat, n1 ≤ 99 → ∀ τ, RwIs τ 8 ld.2 → Fr9 [0, 27, 28] [13, 14, 16, 8] σ τ → GoM E 9 RX12 cX12_ahead 4 (some .int) (fun r σ' => r = some (.int (nI (wks (vOf bd sk xs ld.1) ld.2 n1).2.2.1)) ∧ RefIs σ' tx bd sk tw xs ld pa sh ru (2, ln2 (lN (hedSum ld.1 (wks (vOf bd sk xs ld.1) ld.2 n1).2.2.2)) (lN (wks (vOf bd sk xs ld.1) ld.2 n1).2.1)) ∧ FrG [33] σ σ') τ 23 [(0, .ref (zA E 33 0)), (1, .int (nI n1))] [] := by
    intro n1 hn1
    have loop : ∀ (i : Nat) (τ : zT), i ≤ n1 → (RwIs τ 8 (wks (vOf bd sk xs ld.1) ld.2 i).2.2.2) → (Fr9 [0, 27, 28] [13, 14, 16, 8] σ τ) → GoM E 9 RX12 cX12_ahead 4 (some .int) (fun r σ' => r = some (.int (nI (wks (vOf bd sk xs ld.1) ld.2 n1).2.2.1)) ∧ RefIs σ' tx bd sk tw xs ld pa sh ru (2, ln2 (lN (hedSum ld.1 (wks (vOf bd sk xs ld.1) ld.2 n1).2.2.2)) (lN (wks (vOf bd sk xs ld.1) ld.2 n1).2.1)) ∧ FrG [33] σ σ') τ 27 [(0, .ref (zA E 33 0)), (1, .int (nI n1)), (2, .int (nI (wks (vOf bd sk xs ld.1) ld.2 i).2.1)), (3, .int (nI i))] [] := by
      intro i
      induction hz : n1 - i using Nat.strongRecOn generalizing i with
      | ind z ih =>
        intro τ hi hR hF
        obtain ⟨a1, a2, a3, a4, a5, a6, a7⟩ := wks_ok hV hok i (by omega) (by omega)
        have hCt := hC.fr hF (by decide) (by decide)
        refine go_iload_n (i := 3) (pc := 27) dX12_ahead_27 rfl rfl ?_
        refine go_iload_n (i := 1) (pc := 28) dX12_ahead_28 rfl rfl ?_
        refine go_icmp_ge 60 (pc := 29) dX12_ahead_29 (by decide) (fun h29 => ?_) (fun h29 => ?_)
        · first | rw [nI_leI (by omega) (by omega)] at h29 | rw [zi_leN (by omega)] at h29 | rw [zi_Nle (by omega)] at h29 | rw [zi_le] at h29
          have e : i = n1 := by omega
          subst e
          refine go_aload_n (i := 0) (pc := 60) dX12_ahead_60 rfl rfl ?_
          refine go_iconst (nI 0) (pc := 61) dX12_ahead_61 (by decide) ?_
          refine go_puti fp_X12_104 (pc := 62) dX12_ahead_62 (by rfl) rfl rfl ?_
          have hFt : Fr9 [0, 1, 27, 28] [1, 13, 14, 16, 8] σ (uS τ 33 1 (nI 0)) := (hF.mono (by simp) (by simp)).uS (by simp)
          have hz1 : (uS τ 33 1 (nI 0)).1 33 1 = nI 0 := uS_s _ _ _ _
          refine go_aload_n (i := 0) (pc := 65) dX12_ahead_65 rfl rfl ?_
          refine go_aload_n (i := 0) (pc := 66) dX12_ahead_66 rfl rfl ?_
          refine go_aload_n (i := 0) (pc := 67) dX12_ahead_67 rfl rfl ?_
          refine go_getr2 fl_X12_39 (pc := 68) dX12_ahead_68 (by rfl) (by rfl) (by rfl) ?_
          refine go_callV ml_X12_337 mt_X12_allHedge (pc := 71) dX12_ahead_71 (c_X12_allHedge (j := 8) rfl (show RwIs (uS τ 33 1 (nI 0)) 8 _ from hR) a1 (show (uS τ 33 1 (nI 0)).1 33 3 = _ from hCt.2.2.2.2.2.1.1)) (by rfl) rfl (by rfl) (by decide) (by decide) rfl rfl (Nat.le_of_ble_eq_true rfl) (fun r σ' hp => ?_)
          obtain ⟨rfl, hσ⟩ := hp
          rw [hσ]
          clear hσ σ'
          dsimp only [zRet]
          have h108 := hedSum_le a1
          refine go_i2l (pc := 74) dX12_ahead_74 ?_
          rw [nI_l (Nat.lt_of_le_of_lt h108 (by decide))]
          refine go_callV ml_X12_333 mt_X12_enters (pc := 75) dX12_ahead_75 (c_tell1 hz1) (by rfl) rfl (by rfl) (by decide) (by decide) rfl rfl (Nat.le_of_ble_eq_true rfl) (fun r σ' hp => ?_)
          obtain ⟨rfl, hT1, hF1⟩ := hp
          dsimp only [zRet]
          have hFu := hFt.tr (hF1.mono (by simp) (by simp))
          refine go_aload_n (i := 0) (pc := 78) dX12_ahead_78 rfl rfl ?_
          refine go_iload_n (i := 2) (pc := 79) dX12_ahead_79 rfl rfl ?_
          refine go_i2l (pc := 80) dX12_ahead_80 ?_
          rw [nI_l (by omega)]
          refine go_callV ml_X12_333 mt_X12_enters (pc := 81) dX12_ahead_81 (c_tell2 hT1) (by rfl) rfl (by rfl) (by decide) (by decide) rfl rfl (Nat.le_of_ble_eq_true rfl) (fun r σ' hp => ?_)
          obtain ⟨rfl, hT2, hF2⟩ := hp
          dsimp only [zRet]
          have hFv := hFu.tr (hF2.mono (by simp) (by simp))
          refine go_aload_n (i := 0) (pc := 84) dX12_ahead_84 rfl rfl ?_
          refine go_getr2 fl_X12_39 (pc := 85) dX12_ahead_85 (by rfl) (by rfl) (by rfl) ?_
          refine go_bipush (nI 28) (pc := 88) dX12_ahead_88 (by decide) ?_
          refine go_iaload _ (pc := 90) dX12_ahead_90 (by first | rfl | (apply zM_ar <;> assumption)) (by first | rfl | (apply zM_jn <;> assumption)) rfl (by first | assumption | omega) ?_
          rw [((show RwIs (uS τ 33 1 (nI 0)) 8 _ from hR).fr (hF1.tr hF2) (by decide)) 28 (by decide), a3]
          refine go_aload_n (i := 0) (pc := 91) dX12_ahead_91 rfl rfl ?_
          refine go_getr2 fl_X12_36 (pc := 92) dX12_ahead_92 (by rfl) (by rfl) (by rfl) ?_
          refine go_bipush (nI 28) (pc := 95) dX12_ahead_95 (by decide) ?_
          refine go_iaload _ (pc := 97) dX12_ahead_97 (by first | rfl | (apply zM_ar <;> assumption)) (by first | rfl | (apply zM_jn <;> assumption)) rfl (by first | assumption | omega) ?_
          rw [((show RwIs (uS τ 33 1 (nI 0)) 7 _ from hCt.2.2.2.2.2.1.2.2).fr (hF1.tr hF2) (by decide)) 28 (by decide)]
          first | with_reducible refine go_isubN (pc := 98) dX12_ahead_98 (by omega) ?_ | refine go_isub (pc := 98) dX12_ahead_98 ?_
          rw [Nat.add_sub_cancel_left]
          refine go_ireturn (pc := 99) dX12_ahead_99 rfl ?_
          exact ⟨rfl, hC.tell hFv (by decide) (by decide) hT2, hFv.1⟩
        · first | rw [nI_leI (by omega) (by omega)] at h29 | rw [zi_leN (by omega)] at h29 | rw [zi_Nle (by omega)] at h29 | rw [zi_le] at h29
          refine go_iload_n (i := 2) (pc := 32) dX12_ahead_32 rfl rfl ?_
          refine go_aload_n (i := 0) (pc := 33) dX12_ahead_33 rfl rfl ?_
          refine go_aload_n (i := 0) (pc := 34) dX12_ahead_34 rfl rfl ?_
          refine go_getr2 fl_X12_39 (pc := 35) dX12_ahead_35 (by rfl) (by rfl) (by rfl) ?_
          refine go_callV ml_X12_298 mt_X12_weekGoes (pc := 38) dX12_ahead_38 (c_X12_weekGoes (V := (vOf bd sk xs ld.1)) (j := 8) hCt.env hR a1 rfl (by omega) (by omega)) (by rfl) rfl (by rfl) (by decide) (by decide) rfl rfl (Nat.le_of_ble_eq_true rfl) (fun r σ' hp => ?_)
          obtain ⟨rfl, hR2, hFd⟩ := hp
          dsimp only [zRet]
          have hF := hF.tr (hFd.mono (by simp) (by simp))
          obtain ⟨b1, b2, b3, b4, b5, b6⟩ := wk1_ok hV a1 (by omega) (by omega)
          have hbz := wk1_bz hV a1
          refine go_if_ne 48 (pc := 41) dX12_ahead_41 (by decide) (fun h41 => ?_) (fun h41 => ?_)
          · first | rw [zb_0d] at h41 | rw [zn_eq0 (by omega)] at h41 | rw [zi_eq0] at h41
            have es : (wks (vOf bd sk xs ld.1) ld.2 (i + 1)).2.1 = (wks (vOf bd sk xs ld.1) ld.2 i).2.1 := if_neg (fun h => h41 (hbz.mpr h))
            refine go_iconst (nI 0) (pc := 48) dX12_ahead_48 (by decide) ?_
            refine go_callS ml_X12_136 mt_X12_flag (pc := 49) dX12_ahead_49 (c_flagN (by decide)) (by decide) (by decide) rfl rfl (Nat.le_of_ble_eq_true rfl) (fun r σ' hp => ?_)
            obtain ⟨rfl, hσ⟩ := hp
            rw [hσ]
            clear hσ σ'
            dsimp only [zRet]
            first | with_reducible refine go_iaddN (pc := 52) dX12_ahead_52 ?_ | refine go_iadd (pc := 52) dX12_ahead_52 ?_
            refine go_istore_n (i := 2) (pc := 53) dX12_ahead_53 rfl (by decide) ?_
            refine go_iincN (pc := 54) dX12_ahead_54 rfl (by decide) ?_
            refine go_goto 27 (pc := 57) dX12_ahead_57 (by decide) ?_
            try rw [Nat.add_zero]
            rw [← es]
            exact ih (n1 - (i + 1)) (by omega) (i + 1) rfl _ (by omega) hR2 hF
          · first | rw [zb_0d] at h41 | rw [zn_eq0 (by omega)] at h41 | rw [zi_eq0] at h41
            have h41 : (wk1 (vOf bd sk xs ld.1) (wks (vOf bd sk xs ld.1) ld.2 i).2.2.2).1 = 0 := by omega
            have es : (wks (vOf bd sk xs ld.1) ld.2 (i + 1)).2.1 = (wks (vOf bd sk xs ld.1) ld.2 i).2.1 + 1 := if_pos (hbz.mp h41)
            refine go_iconst (nI 1) (pc := 44) dX12_ahead_44 (by decide) ?_
            refine go_goto 49 (pc := 45) dX12_ahead_45 (by decide) ?_
            refine go_callS ml_X12_136 mt_X12_flag (pc := 49) dX12_ahead_49 (c_flagN (by decide)) (by decide) (by decide) rfl rfl (Nat.le_of_ble_eq_true rfl) (fun r σ' hp => ?_)
            obtain ⟨rfl, hσ⟩ := hp
            rw [hσ]
            clear hσ σ'
            dsimp only [zRet]
            first | with_reducible refine go_iaddN (pc := 52) dX12_ahead_52 ?_ | refine go_iadd (pc := 52) dX12_ahead_52 ?_
            refine go_istore_n (i := 2) (pc := 53) dX12_ahead_53 rfl (by decide) ?_
            refine go_iincN (pc := 54) dX12_ahead_54 rfl (by decide) ?_
            refine go_goto 27 (pc := 57) dX12_ahead_57 (by decide) ?_
            try rw [Nat.add_zero]
            rw [← es]
            exact ih (n1 - (i + 1)) (by omega) (i + 1) rfl _ (by omega) hR2 hF
    intro τ hw8 hF
    refine go_iconst (nI 0) (pc := 23) dX12_ahead_23 (by decide) ?_
    refine go_istore_n (i := 2) (pc := 24) dX12_ahead_24 rfl (by decide) ?_
    refine go_iconst (nI 0) (pc := 25) dX12_ahead_25 (by decide) ?_
    refine go_istore_n (i := 3) (pc := 26) dX12_ahead_26 rfl (by decide) ?_
    exact loop 0 τ (by omega) hw8 hF
  refine go_aload_n (i := 0) (pc := 0) dX12_ahead_0 rfl rfl ?_
  refine go_iconst (nI 0) (pc := 1) dX12_ahead_1 (by decide) ?_
  refine go_puti fp_X12_97 (pc := 2) dX12_ahead_2 (by rfl) rfl rfl ?_
  have hF : Fr9 [0, 27, 28] [13, 14, 16, 8] σ (uS σ 33 0 (nI 0)) := Fr9.rf.uS (by simp)
  refine go_iload_n (i := 1) (pc := 5) dX12_ahead_5 rfl rfl ?_
  refine go_i2l (pc := 6) dX12_ahead_6 ?_
  refine go_lconst (lN 0) (pc := 7) dX12_ahead_7 (by decide) ?_
  refine go_ldc2 (99) kc_X12_301 (pc := 8) dX12_ahead_8 ?_
  refine go_callS ml_X12_107 mt_X12_in (pc := 11) dX12_ahead_11 (c_in (lo := 0) (hi := 99) (by decide) (by decide)) (by decide) (by decide) rfl rfl (Nat.le_of_ble_eq_true rfl) (fun r σ' hp => ?_)
  obtain ⟨rfl, hσ⟩ := hp
  rw [hσ]
  clear hσ σ'
  dsimp only [zRet]
  refine go_if_ne 19 (pc := 14) dX12_ahead_14 (by decide) (fun h14 => ?_) (fun h14 => ?_)
  · first | rw [zb_0d] at h14 | rw [zn_eq0 (by omega)] at h14 | rw [zi_eq0] at h14
    rw [if_pos (by omega), if_pos (by omega)]
    have hn99 : n.toInt ≤ 99 := by omega
    have en1 := nI_of' (x := n) (by omega)
    generalize hqn1 : n.toInt.toNat = n1 at en1 ⊢
    subst en1
    refine go_aload_n (i := 0) (pc := 19) dX12_ahead_19 rfl rfl ?_
    refine go_callV ml_X12_356 mt_X12_copies (pc := 20) dX12_ahead_20 (c_X12_copies (hN.2.2.fr hF (by decide))) (by rfl) rfl (by rfl) (by decide) (by decide) rfl rfl (Nat.le_of_ble_eq_true rfl) (fun r σ' hp => ?_)
    obtain ⟨rfl, hw8, hFc⟩ := hp
    dsimp only [zRet]
    have hF := hF.tr (hFc.mono (by simp) (by simp))
    have hEc := (hC.fr hF (by decide) (by decide)).env
    exact main n1 (by omega) _ hw8 hF
  · first | rw [zb_0d] at h14 | rw [zn_eq0 (by omega)] at h14 | rw [zi_eq0] at h14
    refine go_iconst (-1) (pc := 17) dX12_ahead_17 (by decide) ?_
    refine go_ireturn (pc := 18) dX12_ahead_18 rfl ?_
    rw [if_neg (by omega), if_neg (by omega)]
    exact ⟨rfl, hC.fr hF (by decide) (by decide), hF.1⟩

theorem c_X12_holds {E : zE} {σ : zT} {tx : Nat × (Nat → Nat)} {bd : Nat × (Nat → Nat) × (Nat → Nat)} {sk : Nat × (Nat → Nat)} {tw : Nat × (Nat → Nat) × (Nat → Nat)} {xs : List Nat} {ld : Nat × (Nat → Nat)} {pa sh : Nat × (Nat → Nat → Nat)} {ru : Nat × (Nat → Nat) × (Nat → Nat)} {to : Nat × (Nat → Int64)} (hC : RefIs σ tx bd sk tw xs ld pa sh ru to) (hro : Roomy ld.2) : CalM E 9 yX12_holds cX12_holds 3 (some .int) [.ref (zA E 33 0)] σ (fun r σ' => r = some (.int (match hld (vLd bd sk xs ld) 99 ld.2 0 with | none => -2 | some q => nI q.1)) ∧ RefIs σ' tx bd sk tw xs ld pa sh ru (match hld (vLd bd sk xs ld) 99 ld.2 0 with | none => to | some q => (1, ln1 (lN q.2))) ∧ FrG [33] σ σ') := by
  refine cal_of_go (own := RX12) rfl (by decide +kernel) (Nat.le_of_ble_eq_true rfl) ?_
  have hN := hC.2.2.2.2.2.1
  have hn : 1 ≤ ld.1 ∧ ld.1 ≤ 12 := ⟨hN.2.1.1, hN.2.1.2.1⟩
  have hV := hC.env.vok hN.2.1
  have hok := hN.2.1
  have loop : ∀ (t : Nat) (ρ : Nat → Nat) (τ : zT), t ≤ 99 → RowOK ld.1 ρ → ρ 27 = ld.2 27 + t → ρ 28 ≤ ld.2 28 + 72 * t → hld (vLd bd sk xs ld) 99 ld.2 0 = hld (vLd bd sk xs ld) (99 - t) ρ t → RwIs τ 8 ρ → Fr9 [0, 27, 28] [13, 14, 16, 8] σ τ → GoM E 9 RX12 cX12_holds 3 (some .int) (fun r σ' => r = some (.int (match hld (vLd bd sk xs ld) 99 ld.2 0 with | none => -2 | some q => nI q.1)) ∧ RefIs σ' tx bd sk tw xs ld pa sh ru (match hld (vLd bd sk xs ld) 99 ld.2 0 with | none => to | some q => (1, ln1 (lN q.2))) ∧ FrG [33] σ σ') τ 11 [(0, .ref (zA E 33 0)), (1, .int (nI t))] [] := by
    intro t
    induction hj : 99 - t using Nat.strongRecOn generalizing t with
    | ind z ih =>
      intro ρ τ ht hok2 h27 h28 hlq hR hF
      have hCt := hC.fr hF (by decide) (by decide)
      refine go_iload_n (i := 1) (pc := 11) dX12_holds_11 rfl rfl ?_
      refine go_bipush (nI 99) (pc := 12) dX12_holds_12 (by decide) ?_
      refine go_icmp_ge 49 (pc := 14) dX12_holds_14 (by decide) (fun h14 => ?_) (fun h14 => ?_)
      · first | rw [nI_leI (by omega) (by omega)] at h14 | rw [zi_leN (by omega)] at h14 | rw [zi_Nle (by omega)] at h14 | rw [zi_le] at h14
        have e : z = 0 := by omega
        subst e
        have hld2 : hld (vLd bd sk xs ld) 99 ld.2 0 = none := hlq
        refine go_bipush (-2) (pc := 49) dX12_holds_49 (by decide) ?_
        refine go_ireturn (pc := 51) dX12_holds_51 rfl ?_
        rw [hld2]
        exact ⟨rfl, hC.fr hF (by decide) (by decide), hF.1⟩
      · first | rw [nI_leI (by omega) (by omega)] at h14 | rw [zi_leN (by omega)] at h14 | rw [zi_Nle (by omega)] at h14 | rw [zi_le] at h14
        refine go_aload_n (i := 0) (pc := 17) dX12_holds_17 rfl rfl ?_
        refine go_aload_n (i := 0) (pc := 18) dX12_holds_18 rfl rfl ?_
        refine go_getr2 fl_X12_39 (pc := 19) dX12_holds_19 (by rfl) (by rfl) (by rfl) ?_
        refine go_callV ml_X12_298 mt_X12_weekGoes (pc := 22) dX12_holds_22 (c_X12_weekGoes (V := (vOf bd sk xs ld.1)) (j := 8) hCt.env hR hok2 rfl (by omega) (by omega)) (by rfl) rfl (by rfl) (by decide) (by decide) rfl rfl (Nat.le_of_ble_eq_true rfl) (fun r σ' hp => ?_)
        obtain ⟨rfl, hR2, hFd⟩ := hp
        dsimp only [zRet]
        have hF := hF.tr (hFd.mono (by simp) (by simp))
        obtain ⟨b1, b2, b3, b4, b5, b6⟩ := wk1_ok (V := (vOf bd sk xs ld.1)) hV hok2 (by omega) (by omega)
        have hbz := wk1_bz (V := (vOf bd sk xs ld.1)) hV hok2
        refine go_istore_n (i := 2) (pc := 25) dX12_holds_25 rfl (by decide) ?_
        refine go_iload_n (i := 2) (pc := 26) dX12_holds_26 rfl rfl ?_
        refine go_if_eq 43 (pc := 27) dX12_holds_27 (by decide) (fun h27b => ?_) (fun h27b => ?_)
        · first | rw [zb_0d] at h27b | rw [zn_eq0 (by omega)] at h27b | rw [zi_eq0] at h27b
          have hb27 : (wk1 (vOf bd sk xs ld.1) ρ).1 = 0 := by omega
          have e : z = z - 1 + 1 := by omega
          rw [e] at hlq
          have hld2 : hld (vLd bd sk xs ld) 99 ld.2 0 = hld (vLd bd sk xs ld) (z - 1) (wk1 (vLd bd sk xs ld) ρ).2.2 (t + 1) := hlq.trans (if_pos (hbz.mp hb27))
          refine go_iincN (pc := 43) dX12_holds_43 rfl (by decide) ?_
          refine go_goto 11 (pc := 46) dX12_holds_46 (by decide) ?_
          refine go_drop [0, 1] rfl ?_
          exact ih (z - 1) (by omega) (t + 1) (by omega) _ _ (by omega) b1 (by omega) (by omega) hld2 hR2 hF
        · first | rw [zb_0d] at h27b | rw [zn_eq0 (by omega)] at h27b | rw [zi_eq0] at h27b
          have e : z = z - 1 + 1 := by omega
          rw [e] at hlq
          have hld2 : hld (vLd bd sk xs ld) 99 ld.2 0 = some (t, (wk1 (vLd bd sk xs ld) ρ).1) := hlq.trans (if_neg (fun h => by have := hbz.mpr h; omega))
          refine go_aload_n (i := 0) (pc := 30) dX12_holds_30 rfl rfl ?_
          refine go_iconst (nI 0) (pc := 31) dX12_holds_31 (by decide) ?_
          refine go_puti fp_X12_104 (pc := 32) dX12_holds_32 (by rfl) rfl rfl ?_
          have hFt : Fr9 [0, 1, 27, 28] [1, 13, 14, 16, 8] σ (uS σ' 33 1 (nI 0)) := (hF.mono (by simp) (by simp)).uS (by simp)
          have hz1 : (uS σ' 33 1 (nI 0)).1 33 1 = nI 0 := uS_s _ _ _ _
          refine go_aload_n (i := 0) (pc := 35) dX12_holds_35 rfl rfl ?_
          refine go_iload_n (i := 2) (pc := 36) dX12_holds_36 rfl rfl ?_
          refine go_i2l (pc := 37) dX12_holds_37 ?_
          rw [nI_l (by omega)]
          refine go_callV ml_X12_333 mt_X12_enters (pc := 38) dX12_holds_38 (c_tell1 hz1) (by rfl) rfl (by rfl) (by decide) (by decide) rfl rfl (Nat.le_of_ble_eq_true rfl) (fun r σ' hp => ?_)
          obtain ⟨rfl, hT1, hF1⟩ := hp
          dsimp only [zRet]
          have hFu := hFt.tr (hF1.mono (by simp) (by simp))
          refine go_iload_n (i := 1) (pc := 41) dX12_holds_41 rfl rfl ?_
          refine go_ireturn (pc := 42) dX12_holds_42 rfl ?_
          rw [hld2]
          exact ⟨rfl, hC.tell hFu (by decide) (by decide) hT1, hFu.1⟩
  refine go_aload_n (i := 0) (pc := 0) dX12_holds_0 rfl rfl ?_
  refine go_iconst (nI 0) (pc := 1) dX12_holds_1 (by decide) ?_
  refine go_puti fp_X12_97 (pc := 2) dX12_holds_2 (by rfl) rfl rfl ?_
  have hF : Fr9 [0, 27, 28] [13, 14, 16, 8] σ (uS σ 33 0 (nI 0)) := Fr9.rf.uS (by simp)
  refine go_aload_n (i := 0) (pc := 5) dX12_holds_5 rfl rfl ?_
  refine go_callV ml_X12_356 mt_X12_copies (pc := 6) dX12_holds_6 (c_X12_copies (hN.2.2.fr hF (by decide))) (by rfl) rfl (by rfl) (by decide) (by decide) rfl rfl (Nat.le_of_ble_eq_true rfl) (fun r σ' hp => ?_)
  obtain ⟨rfl, hw8, hFc⟩ := hp
  dsimp only [zRet]
  have hF := hF.tr (hFc.mono (by simp) (by simp))
  have hEc := (hC.fr hF (by decide) (by decide)).env
  refine go_iconst (nI 0) (pc := 9) dX12_holds_9 (by decide) ?_
  refine go_istore_n (i := 1) (pc := 10) dX12_holds_10 rfl (by decide) ?_
  exact loop 0 ld.2 _ (by omega) hok rfl (by omega) rfl hw8 hF

theorem c_X12_keeps {E : zE} {σ : zT} {tx : Nat × (Nat → Nat)} {bd : Nat × (Nat → Nat) × (Nat → Nat)} {sk : Nat × (Nat → Nat)} {tw : Nat × (Nat → Nat) × (Nat → Nat)} {xs : List Nat} {ld : Nat × (Nat → Nat)} {pa sh : Nat × (Nat → Nat → Nat)} {ru : Nat × (Nat → Nat) × (Nat → Nat)} {to : Nat × (Nat → Int64)} (hC : RefIs σ tx bd sk tw xs ld pa sh ru to) (hro : Roomy ld.2) : CalM E 10 yX12_keeps cX12_keeps 2 (some .int) [.ref (zA E 33 0)] σ (fun r σ' => r = some (.int (nI (kpsC (vOf bd sk xs ld.1) ld.2 bd.1))) ∧ RefIs σ' tx bd sk tw xs ld pa sh ru to ∧ FrG [33] σ σ') := by
  refine cal_of_go (own := RX12) rfl (by decide +kernel) (Nat.le_of_ble_eq_true rfl) ?_
  have hN := hC.2.2.2.2.2.1
  have hn : 1 ≤ ld.1 ∧ ld.1 ≤ 12 := ⟨hN.2.1.1, hN.2.1.2.1⟩
  have hV := hC.env.vok hN.2.1
  have hok := hN.2.1
  have hk99 := kpsC_le (vOf bd sk xs ld.1) ld.2 bd.1
  have loop : ∀ (v : Nat) (τ : zT), v ≤ 99 → kpsC (vOf bd sk xs ld.1) ld.2 bd.1 ≤ v → Fr9 [0, 27, 28] [13, 14, 16, 8] σ τ → GoM E 10 RX12 cX12_keeps 2 (some .int) (fun r σ' => r = some (.int (nI (kpsC (vOf bd sk xs ld.1) ld.2 bd.1))) ∧ RefIs σ' tx bd sk tw xs ld pa sh ru to ∧ FrG [33] σ σ') τ 8 [(0, .ref (zA E 33 0)), (1, .int (nI v))] [] := by
    intro v
    induction v with
    | zero =>
      intro τ hv hk hF
      refine go_iload_n (i := 1) (pc := 8) dX12_keeps_8 rfl rfl ?_
      refine go_if_le 26 (pc := 9) dX12_keeps_9 (by decide) (fun h9 => ?_) (fun h9 => ?_)
      · first | rw [zb_0d] at h9 | rw [zn_le0 (by omega)] at h9 | rw [zi_le0] at h9
        refine go_iload_n (i := 1) (pc := 26) dX12_keeps_26 rfl rfl ?_
        refine go_ireturn (pc := 27) dX12_keeps_27 rfl ?_
        rw [show kpsC (vOf bd sk xs ld.1) ld.2 bd.1 = 0 by omega]
        exact ⟨rfl, hC.fr hF (by decide) (by decide), hF.1⟩
      · first | rw [zb_0d] at h9 | rw [zn_le0 (by omega)] at h9 | rw [zi_le0] at h9
        exact absurd (by omega) h9
    | succ v ih =>
      intro τ hv hk hF
      have hCt := hC.fr hF (by decide) (by decide)
      obtain ⟨kp1, -⟩ := kps_crs (ρ := ld.2) (v := v + 1) hV hv bd.1 (Nat.le_refl _)
      have hl72 : (crsA (vOf bd sk xs ld.1) 0 (va_up ld.2 26 (v + 1))).2.1 ≤ 72 := by
        have h3 := (crs_ok (st := 0) hV (show RowOK (vN (vOf bd sk xs ld.1)) (va_up ld.2 26 (v + 1)) from hok.hi (Or.inr (Or.inl ⟨Or.inr rfl, hv⟩))) (vC (vOf bd sk xs ld.1)) (Nat.le_refl _)).2.2.1
        exact Nat.le_trans h3 (Nat.mul_le_mul_left 9 hV.2.2.1)
      refine go_iload_n (i := 1) (pc := 8) dX12_keeps_8 rfl rfl ?_
      refine go_if_le 26 (pc := 9) dX12_keeps_9 (by decide) (fun h9 => ?_) (fun h9 => ?_)
      · first | rw [zb_0d] at h9 | rw [zn_le0 (by omega)] at h9 | rw [zi_le0] at h9
        omega
      · first | rw [zb_0d] at h9 | rw [zn_le0 (by omega)] at h9 | rw [zi_le0] at h9
        refine go_aload_n (i := 0) (pc := 12) dX12_keeps_12 rfl rfl ?_
        refine go_iload_n (i := 1) (pc := 13) dX12_keeps_13 rfl rfl ?_
        refine go_callV ml_X12_362 mt_X12_loadsAt (pc := 14) dX12_keeps_14 (c_X12_loadsAt (V := (vOf bd sk xs ld.1)) hCt.env hCt.2.2.2.2.2.1.2.2 hok hv (by omega)) (by rfl) rfl (by rfl) (by decide) (by decide) rfl rfl (Nat.le_of_ble_eq_true rfl) (fun r σ' hp => ?_)
        obtain ⟨rfl, hFd⟩ := hp
        dsimp only [zRet]
        have hF := hF.tr (hFd.mono (by simp) (by simp))
        refine go_if_le 26 (pc := 17) dX12_keeps_17 (by decide) (fun h17 => ?_) (fun h17 => ?_)
        · first | rw [zb_0d] at h17 | rw [zn_le0 (by omega)] at h17 | rw [zi_le0] at h17
          have h17 : (crsA (vOf bd sk xs ld.1) 0 (va_up ld.2 26 (v + 1))).2.1 = 0 := by omega
          have hkv := kp1.mp h17
          refine go_iload_n (i := 1) (pc := 26) dX12_keeps_26 rfl rfl ?_
          refine go_ireturn (pc := 27) dX12_keeps_27 rfl ?_
          rw [show kpsC (vOf bd sk xs ld.1) ld.2 bd.1 = v + 1 by omega]
          exact ⟨rfl, hC.fr hF (by decide) (by decide), hF.1⟩
        · first | rw [zb_0d] at h17 | rw [zn_le0 (by omega)] at h17 | rw [zi_le0] at h17
          have hkv : ¬ v + 1 ≤ kpsC (vOf bd sk xs ld.1) ld.2 bd.1 := fun h => by have : (crsA (vOf bd sk xs ld.1) 0 (va_up ld.2 26 (v + 1))).2.1 = 0 := kp1.mpr h; omega
          refine go_iinc (nI v) (pc := 20) dX12_keeps_20 rfl (by rw [show Int32.ofInt (-1) = -nI 1 by decide, ← Int32.sub_eq_add_neg, pk_sub (by omega)]; rfl) (by decide) ?_
          refine go_goto 8 (pc := 23) dX12_keeps_23 (by decide) ?_
          exact ih _ (by omega) (by omega) hF
  refine go_aload_n (i := 0) (pc := 0) dX12_keeps_0 rfl rfl ?_
  refine go_iconst (nI 0) (pc := 1) dX12_keeps_1 (by decide) ?_
  refine go_puti fp_X12_97 (pc := 2) dX12_keeps_2 (by rfl) rfl rfl ?_
  have hF : Fr9 [0, 27, 28] [13, 14, 16, 8] σ (uS σ 33 0 (nI 0)) := Fr9.rf.uS (by simp)
  refine go_bipush (nI 99) (pc := 5) dX12_keeps_5 (by decide) ?_
  refine go_istore_n (i := 1) (pc := 7) dX12_keeps_7 rfl (by decide) ?_
  exact loop 99 _ (by omega) hk99 hF

