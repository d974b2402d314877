theorem gM_neg {d : Option Nat} (h : ∀ x, d = some x → x < 2 ^ 31) : gM d < 0 ↔ d = none := by
  cases d with
  | none => exact ⟨fun _ => rfl, fun _ => by decide⟩
  | some x => exact ⟨fun q => absurd q (nI_pos (h x rfl)), fun q => by cases q⟩
theorem eM_neg {d : Option (Nat × Nat)} (h : ∀ q, d = some q → q.1 < 2 ^ 31) : eM d < 0 ↔ d = none := by
  cases d with
  | none => exact ⟨fun _ => rfl, fun _ => by decide⟩
  | some x => exact ⟨fun q => absurd q (nI_pos (h x rfl)), fun q => by cases q⟩
theorem saf_n {V : zV} {ρ : Nat → Nat} {c i : Nat} (hd : dng V ρ c i = none) : saf V ρ c (i + 1) = saf V ρ c i := by rw [saf, hd]
theorem saf_s0 {V : zV} {ρ : Nat → Nat} {c i x : Nat} (hd : dng V ρ c i = some x) (hs : saf V ρ c i = none) : saf V ρ c (i + 1) = some (i, x) := by rw [saf, hd, hs]
theorem saf_s1 {V : zV} {ρ : Nat → Nat} {c i x : Nat} {q : Nat × Nat} (hd : dng V ρ c i = some x) (hs : saf V ρ c i = some q) (h : x < q.2) : saf V ρ c (i + 1) = some (i, x) := by rw [saf, hd, hs]; exact if_pos h
theorem saf_s2 {V : zV} {ρ : Nat → Nat} {c i x : Nat} {q : Nat × Nat} (hd : dng V ρ c i = some x) (hs : saf V ρ c i = some q) (h : ¬ x < q.2) : saf V ρ c (i + 1) = saf V ρ c i := by rw [saf, hd, hs]; exact if_neg h

theorem c_X12_easiest {E : zE} {σ : zT} {V : zV} {j : Nat} {ρ : Nat → Nat} {c : Nat} (hE : EnvR σ V) (hw : RwIs σ j ρ) (hok : RowOK (vN V) ρ) (hj : zM j = true) (hc : c < vC V) : CalM E 5 yX12_easiest cX12_easiest 5 (some .int) [.ref (zA E 33 0), .ref (zA E 33 j), .int (nI c)] σ (fun r σ' => r = some (.int (eM (easy V ρ c))) ∧ σ'.1 33 27 = eM (easy V ρ c) ∧ σ'.1 33 28 = eD (easy V ρ c) ∧ Fr9 [27, 28] [13, 14] σ σ') := by
  refine cal_of_go (own := RX12) rfl (by decide +kernel) (Nat.le_of_ble_eq_true rfl) ?_
  have hn : 1 ≤ vN V ∧ vN V ≤ 12 := ⟨hok.1, hok.2.1⟩
  have hV := hE.vok hok
  have loop : ∀ (i : Nat) (τ : zT), i ≤ vN V → τ.1 33 27 = eM (saf V ρ c i) → τ.1 33 28 = eD (saf V ρ c i) → Fr9 [27, 28] [13, 14] σ τ → GoM E 5 RX12 cX12_easiest 5 (some .int) (fun r σ' => r = some (.int (eM (easy V ρ c))) ∧ σ'.1 33 27 = eM (easy V ρ c) ∧ σ'.1 33 28 = eD (easy V ρ c) ∧ Fr9 [27, 28] [13, 14] σ σ') τ 12 [(0, .ref (zA E 33 0)), (1, .ref (zA E 33 j)), (2, .int (nI c)), (3, .int (nI i))] [] := by
    intro i
    induction hz : vN V - i using Nat.strongRecOn generalizing i with
    | ind z ih =>
      intro τ hi h27 h28 hF
      have hE2 : EnvR τ V := hE.fr hF (by decide) (by decide)
      have hw2 : RwIs τ j ρ := hw.fr hF (by rcases zM_or hj with rfl | rfl <;> decide)
      have hdl : ∀ x, dng V ρ c i = some x → x < 2 ^ 31 := fun x h => by have := dng_lt hV hok h; omega
      have hsl : ∀ q, saf V ρ c i = some q → q.1 < 2 ^ 31 := fun q h => by have := saf_lt (b := q.1) (x := q.2) hV hok h; omega
      have hsl2 : ∀ q, saf V ρ c i = some q → q.2 < 2 ^ 31 := fun q h => by have := saf_lt (b := q.1) (x := q.2) hV hok h; omega
      refine go_iload_n (i := 3) (pc := 12) dX12_easiest_12 rfl rfl ?_
      refine go_aload_n (i := 0) (pc := 13) dX12_easiest_13 rfl rfl ?_
      refine go_geti fl_X12_13 (pc := 14) dX12_easiest_14 (by rfl) ?_
      rw [hE2.2.2.2]
      refine go_icmp_ge 67 (pc := 17) dX12_easiest_17 (by decide) (fun h17 => ?_) (fun h17 => ?_)
      · first | rw [nI_leI (by omega) (by omega)] at h17 | rw [zi_leN (by omega)] at h17 | rw [zi_Nle (by omega)] at h17 | rw [zi_le] at h17
        have e : i = vN V := by omega
        subst e
        refine go_aload_n (i := 0) (pc := 67) dX12_easiest_67 rfl rfl ?_
        refine go_geti fl_X12_262 (pc := 68) dX12_easiest_68 (by rfl) ?_
        rw [h27]
        refine go_ireturn (pc := 71) dX12_easiest_71 rfl ?_
        exact ⟨rfl, h27, h28, hF⟩
      · first | rw [nI_leI (by omega) (by omega)] at h17 | rw [zi_leN (by omega)] at h17 | rw [zi_Nle (by omega)] at h17 | rw [zi_le] at h17
        refine go_aload_n (i := 0) (pc := 20) dX12_easiest_20 rfl rfl ?_
        refine go_aload_n (i := 1) (pc := 21) dX12_easiest_21 rfl rfl ?_
        refine go_iload_n (i := 2) (pc := 22) dX12_easiest_22 rfl rfl ?_
        refine go_iload_n (i := 3) (pc := 23) dX12_easiest_23 rfl rfl ?_
        refine go_callV ml_X12_268 mt_X12_dangerOf (pc := 24) dX12_easiest_24 (c_X12_dangerOf hE2 hw2 hok hj hc (by omega)) (by rfl) rfl (by rfl) (by decide) (by decide) rfl rfl (Nat.le_of_ble_eq_true rfl) (fun r σ' hp => ?_)
        obtain ⟨rfl, hF2⟩ := hp
        dsimp only [zRet]
        have hF3 : Fr9 [27, 28] [13, 14] σ σ' := hF.tr (hF2.mono (by simp) (by simp))
        refine go_istore (pc := 27) dX12_easiest_27 (by decide) ?_
        refine go_iload (pc := 29) dX12_easiest_29 rfl ?_
        refine go_if_lt 61 (pc := 31) dX12_easiest_31 (by decide) (fun h31 => ?_) (fun h31 => ?_)
        · rw [gM_neg hdl] at h31
          have hd := h31
          have kA := trivial
          refine go_iincN (pc := 61) dX12_easiest_61 rfl (by decide) ?_
          refine go_goto 12 (pc := 64) dX12_easiest_64 (by decide) ?_
          first
            | (have _ := kA
               refine go_drop [0, 1, 2, 3] rfl ?_
               exact ih (vN V - (i + 1)) (by omega) (i + 1) rfl _ (by omega) (by rw [saf_n hd, hF2.2.1 _ (by decide)]; exact h27) (by rw [saf_n hd, hF2.2.1 _ (by decide)]; exact h28) (hF3))
            | (have _ := kD
               refine go_drop [0, 1, 2, 3] rfl ?_
               exact ih (vN V - (i + 1)) (by omega) (i + 1) rfl _ (by omega) (by rw [saf_s2 hd hs (by omega), hF2.2.1 _ (by decide)]; exact h27) (by rw [saf_s2 hd hs (by omega), hF2.2.1 _ (by decide)]; exact h28) (hF3))
            | (have _ := kB
               refine go_drop [0, 1, 2, 3] rfl ?_
               exact ih (vN V - (i + 1)) (by omega) (i + 1) rfl _ (by omega) (by rw [saf_s0 hd hs]; simp [uS_1, eM]) (by rw [saf_s0 hd hs]; simp [uS_1, eD]) ((hF3.uS (by simp)).uS (by simp)))
            | (have _ := kC
               refine go_drop [0, 1, 2, 3] rfl ?_
               exact ih (vN V - (i + 1)) (by omega) (i + 1) rfl _ (by omega) (by rw [saf_s1 hd hs (by omega)]; simp [uS_1, eM]) (by rw [saf_s1 hd hs (by omega)]; simp [uS_1, eD]) ((hF3.uS (by simp)).uS (by simp)))
        · rw [gM_neg hdl] at h31
          obtain ⟨x, hd⟩ := Option.ne_none_iff_exists'.mp h31
          rw [hd]
          dsimp only [gM]
          have hx := hdl x hd
          refine go_aload_n (i := 0) (pc := 34) dX12_easiest_34 rfl rfl ?_
          refine go_geti fl_X12_262 (pc := 35) dX12_easiest_35 (by rfl) ?_
          rw [hF2.2.1 _ (by decide), h27]
          refine go_if_lt 50 (pc := 38) dX12_easiest_38 (by decide) (fun h38 => ?_) (fun h38 => ?_)
          · rw [eM_neg hsl] at h38
            have hs := h38
            have kB := trivial
            refine go_aload_n (i := 0) (pc := 50) dX12_easiest_50 rfl rfl ?_
            refine go_iload_n (i := 3) (pc := 51) dX12_easiest_51 rfl rfl ?_
            refine go_puti fp_X12_262 (pc := 52) dX12_easiest_52 (by rfl) rfl rfl ?_
            refine go_aload_n (i := 0) (pc := 55) dX12_easiest_55 rfl rfl ?_
            refine go_iload (pc := 56) dX12_easiest_56 rfl ?_
            refine go_puti fp_X12_265 (pc := 58) dX12_easiest_58 (by rfl) rfl rfl ?_
            refine go_iincN (pc := 61) dX12_easiest_61 rfl (by decide) ?_
            refine go_goto 12 (pc := 64) dX12_easiest_64 (by decide) ?_
            first
              | (have _ := kA
                 refine go_drop [0, 1, 2, 3] rfl ?_
                 exact ih (vN V - (i + 1)) (by omega) (i + 1) rfl _ (by omega) (by rw [saf_n hd, hF2.2.1 _ (by decide)]; exact h27) (by rw [saf_n hd, hF2.2.1 _ (by decide)]; exact h28) (hF3))
              | (have _ := kD
                 refine go_drop [0, 1, 2, 3] rfl ?_
                 exact ih (vN V - (i + 1)) (by omega) (i + 1) rfl _ (by omega) (by rw [saf_s2 hd hs (by omega), hF2.2.1 _ (by decide)]; exact h27) (by rw [saf_s2 hd hs (by omega), hF2.2.1 _ (by decide)]; exact h28) (hF3))
              | (have _ := kB
                 refine go_drop [0, 1, 2, 3] rfl ?_
                 exact ih (vN V - (i + 1)) (by omega) (i + 1) rfl _ (by omega) (by rw [saf_s0 hd hs]; simp [uS_1, eM]) (by rw [saf_s0 hd hs]; simp [uS_1, eD]) ((hF3.uS (by simp)).uS (by simp)))
              | (have _ := kC
                 refine go_drop [0, 1, 2, 3] rfl ?_
                 exact ih (vN V - (i + 1)) (by omega) (i + 1) rfl _ (by omega) (by rw [saf_s1 hd hs (by omega)]; simp [uS_1, eM]) (by rw [saf_s1 hd hs (by omega)]; simp [uS_1, eD]) ((hF3.uS (by simp)).uS (by simp)))
          · rw [eM_neg hsl] at h38
            obtain ⟨q, hs⟩ := Option.ne_none_iff_exists'.mp h38
            refine go_iload (pc := 41) dX12_easiest_41 rfl ?_
            refine go_aload_n (i := 0) (pc := 43) dX12_easiest_43 rfl rfl ?_
            refine go_geti fl_X12_265 (pc := 44) dX12_easiest_44 (by rfl) ?_
            rw [hF2.2.1 _ (by decide), h28, hs]
            dsimp only [eD]
            have hsq := hsl2 _ hs
            refine go_icmp_ge 61 (pc := 47) dX12_easiest_47 (by decide) (fun h47 => ?_) (fun h47 => ?_)
            · first | rw [nI_leI (by omega) (by omega)] at h47 | rw [zi_leN (by omega)] at h47 | rw [zi_Nle (by omega)] at h47 | rw [zi_le] at h47
              have kD := trivial
              refine go_iincN (pc := 61) dX12_easiest_61 rfl (by decide) ?_
              refine go_goto 12 (pc := 64) dX12_easiest_64 (by decide) ?_
              first
                | (have _ := kA
                   refine go_drop [0, 1, 2, 3] rfl ?_
                   exact ih (vN V - (i + 1)) (by omega) (i + 1) rfl _ (by omega) (by rw [saf_n hd, hF2.2.1 _ (by decide)]; exact h27) (by rw [saf_n hd, hF2.2.1 _ (by decide)]; exact h28) (hF3))
                | (have _ := kD
                   refine go_drop [0, 1, 2, 3] rfl ?_
                   exact ih (vN V - (i + 1)) (by omega) (i + 1) rfl _ (by omega) (by rw [saf_s2 hd hs (by omega), hF2.2.1 _ (by decide)]; exact h27) (by rw [saf_s2 hd hs (by omega), hF2.2.1 _ (by decide)]; exact h28) (hF3))
                | (have _ := kB
                   refine go_drop [0, 1, 2, 3] rfl ?_
                   exact ih (vN V - (i + 1)) (by omega) (i + 1) rfl _ (by omega) (by rw [saf_s0 hd hs]; simp [uS_1, eM]) (by rw [saf_s0 hd hs]; simp [uS_1, eD]) ((hF3.uS (by simp)).uS (by simp)))
                | (have _ := kC
                   refine go_drop [0, 1, 2, 3] rfl ?_
                   exact ih (vN V - (i + 1)) (by omega) (i + 1) rfl _ (by omega) (by rw [saf_s1 hd hs (by omega)]; simp [uS_1, eM]) (by rw [saf_s1 hd hs (by omega)]; simp [uS_1, eD]) ((hF3.uS (by simp)).uS (by simp)))
            · first | rw [nI_leI (by omega) (by omega)] at h47 | rw [zi_leN (by omega)] at h47 | rw [zi_Nle (by omega)] at h47 | rw [zi_le] at h47
              have kC := trivial
              refine go_aload_n (i := 0) (pc := 50) dX12_easiest_50 rfl rfl ?_
              refine go_iload_n (i := 3) (pc := 51) dX12_easiest_51 rfl rfl ?_
              refine go_puti fp_X12_262 (pc := 52) dX12_easiest_52 (by rfl) rfl rfl ?_
              refine go_aload_n (i := 0) (pc := 55) dX12_easiest_55 rfl rfl ?_
              refine go_iload (pc := 56) dX12_easiest_56 rfl ?_
              refine go_puti fp_X12_265 (pc := 58) dX12_easiest_58 (by rfl) rfl rfl ?_
              refine go_iincN (pc := 61) dX12_easiest_61 rfl (by decide) ?_
              refine go_goto 12 (pc := 64) dX12_easiest_64 (by decide) ?_
              first
                | (have _ := kA
                   refine go_drop [0, 1, 2, 3] rfl ?_
                   exact ih (vN V - (i + 1)) (by omega) (i + 1) rfl _ (by omega) (by rw [saf_n hd, hF2.2.1 _ (by decide)]; exact h27) (by rw [saf_n hd, hF2.2.1 _ (by decide)]; exact h28) (hF3))
                | (have _ := kD
                   refine go_drop [0, 1, 2, 3] rfl ?_
                   exact ih (vN V - (i + 1)) (by omega) (i + 1) rfl _ (by omega) (by rw [saf_s2 hd hs (by omega), hF2.2.1 _ (by decide)]; exact h27) (by rw [saf_s2 hd hs (by omega), hF2.2.1 _ (by decide)]; exact h28) (hF3))
                | (have _ := kB
                   refine go_drop [0, 1, 2, 3] rfl ?_
                   exact ih (vN V - (i + 1)) (by omega) (i + 1) rfl _ (by omega) (by rw [saf_s0 hd hs]; simp [uS_1, eM]) (by rw [saf_s0 hd hs]; simp [uS_1, eD]) ((hF3.uS (by simp)).uS (by simp)))
                | (have _ := kC
                   refine go_drop [0, 1, 2, 3] rfl ?_
                   exact ih (vN V - (i + 1)) (by omega) (i + 1) rfl _ (by omega) (by rw [saf_s1 hd hs (by omega)]; simp [uS_1, eM]) (by rw [saf_s1 hd hs (by omega)]; simp [uS_1, eD]) ((hF3.uS (by simp)).uS (by simp)))
  refine go_aload_n (i := 0) (pc := 0) dX12_easiest_0 rfl rfl ?_
  refine go_iconst (-1) (pc := 1) dX12_easiest_1 (by decide) ?_
  refine go_puti fp_X12_262 (pc := 2) dX12_easiest_2 (by rfl) rfl rfl ?_
  refine go_aload_n (i := 0) (pc := 5) dX12_easiest_5 rfl rfl ?_
  refine go_iconst (-1) (pc := 6) dX12_easiest_6 (by decide) ?_
  refine go_puti fp_X12_265 (pc := 7) dX12_easiest_7 (by rfl) rfl rfl ?_
  refine go_iconst (nI 0) (pc := 10) dX12_easiest_10 (by decide) ?_
  refine go_istore_n (i := 3) (pc := 11) dX12_easiest_11 rfl (by decide) ?_
  exact loop 0 _ (by omega) (by simp [uS_1, saf, eM]) (by simp [uS_1, saf, eD]) ((Fr9.rf.uS (by simp)).uS (by simp))

/-- what crossing is worth to c, as the reference has it -/
def wI (V : zV) (ρ : Nat → Nat) (c : Nat) : Int32 := match easy V ρ c with
  | none => nI 0
  | some q => gI V ρ c - nI q.2
theorem wI_le {V : zV} {ρ : Nat → Nat} {c : Nat} (hV : VOK V) (hok : RowOK (vN V) ρ) (hc : c < vC V) : wI V ρ c ≤ 0 ↔ gos V ρ c = none := by
  have hl := (hV.2.2.2.1 c hc).2.2
  unfold wI gos
  cases he : easy V ρ c with
  | none => exact ⟨fun _ => rfl, fun _ => (by decide : nI 0 ≤ (0 : Int32))⟩
  | some q =>
    obtain ⟨m, x⟩ := q
    have h2 := (saf_lt hV hok he).2
    have hb := gain_b (V := V) (c := c) hl hok.2.2.2.2.1 hok.2.2.2.2.2.1
    dsimp only
    rw [zi_le0, Int32.toInt_sub, nI_toInt (by omega), gI_toInt hl hok.2.2.2.2.1 hok.2.2.2.2.2.1, Int.bmod_eq_of_le (by omega) (by omega)]
    by_cases h : (x : Int) < gain V ρ c
    · rw [if_pos h]; exact ⟨fun _ => by omega, fun q => by cases q⟩
    · rw [if_neg h]; exact ⟨fun _ => rfl, fun _ => by omega⟩
theorem gos_easy {V : zV} {ρ : Nat → Nat} {c m : Nat} (h : gos V ρ c = some m) : ∃ x, easy V ρ c = some (m, x) := by
  unfold gos at h
  cases he : easy V ρ c with
  | none => rw [he] at h; cases h
  | some q =>
    rw [he] at h
    dsimp only at h
    split at h
    · cases h; exact ⟨q.2, rfl⟩
    · cases h

theorem c_X12_worthOf {E : zE} {σ : zT} {V : zV} {j : Nat} {ρ : Nat → Nat} {c : Nat} (hE : EnvR σ V) (hw : RwIs σ j ρ) (hok : RowOK (vN V) ρ) (hj : zM j = true) (hc : c < vC V) : CalM E 6 yX12_worthOf cX12_worthOf 4 (some .int) [.ref (zA E 33 0), .ref (zA E 33 j), .int (nI c)] σ (fun r σ' => r = some (.int (wI V ρ c)) ∧ σ'.1 33 27 = eM (easy V ρ c) ∧ σ'.1 33 28 = eD (easy V ρ c) ∧ Fr9 [27, 28] [13, 14] σ σ') := by
  refine cal_of_go (own := RX12) rfl (by decide +kernel) (Nat.le_of_ble_eq_true rfl) ?_
  have hV := hE.vok hok
  have hc8 := hE.2.1.1
  have hsl : ∀ q, easy V ρ c = some q → q.1 < 2 ^ 31 := fun q h => by have h1 := saf_lt (b := q.1) (x := q.2) hV hok h; have h2 := hV.2.1; omega
  refine go_aload_n (i := 0) (pc := 0) dX12_worthOf_0 rfl rfl ?_
  refine go_aload_n (i := 1) (pc := 1) dX12_worthOf_1 rfl rfl ?_
  refine go_iload_n (i := 2) (pc := 2) dX12_worthOf_2 rfl rfl ?_
  refine go_callV ml_X12_272 mt_X12_easiest (pc := 3) dX12_worthOf_3 (c_X12_easiest hE hw hok hj hc) (by rfl) rfl (by rfl) (by decide) (by decide) rfl rfl (Nat.le_of_ble_eq_true rfl) (fun r σ' hp => ?_)
  obtain ⟨rfl, h27, h28, hF⟩ := hp
  dsimp only [zRet]
  have hE2 : EnvR σ' V := hE.fr hF (by decide) (by decide)
  have hw2 : RwIs σ' j ρ := hw.fr hF (by rcases zM_or hj with rfl | rfl <;> decide)
  refine go_istore_n (i := 3) (pc := 6) dX12_worthOf_6 rfl (by decide) ?_
  refine go_iload_n (i := 3) (pc := 7) dX12_worthOf_7 rfl rfl ?_
  refine go_if_ge 15 (pc := 8) dX12_worthOf_8 (by decide) (fun h8 => ?_) (fun h8 => ?_)
  · have h8 : ¬ eM (easy V ρ c) < 0 := Int32.not_lt.mpr h8
    rw [eM_neg hsl] at h8
    obtain ⟨q, he⟩ := Option.ne_none_iff_exists'.mp h8
    refine go_aload_n (i := 0) (pc := 15) dX12_worthOf_15 rfl rfl ?_
    refine go_getr2 fl_X12_27 (pc := 16) dX12_worthOf_16 (by rfl) (by rfl) (by rfl) ?_
    refine go_iload_n (i := 2) (pc := 19) dX12_worthOf_19 rfl rfl ?_
    refine go_iaload _ (pc := 20) dX12_worthOf_20 (by first | rfl | (apply zM_ar <;> assumption)) (by first | rfl | (apply zM_jn <;> assumption)) rfl (by first | assumption | omega) ?_
    rw [(hE2.2.1.2.2 c hc).2.1]
    refine go_aload_n (i := 1) (pc := 21) dX12_worthOf_21 rfl rfl ?_
    refine go_bipush (nI 26) (pc := 22) dX12_worthOf_22 (by decide) ?_
    refine go_iaload _ (pc := 24) dX12_worthOf_24 (by first | rfl | (apply zM_ar <;> assumption)) (by first | rfl | (apply zM_jn <;> assumption)) rfl (by first | assumption | omega) ?_
    rw [hw2 26 (by decide)]
    refine go_aload_n (i := 1) (pc := 25) dX12_worthOf_25 rfl rfl ?_
    refine go_bipush (nI 25) (pc := 26) dX12_worthOf_26 (by decide) ?_
    refine go_iaload _ (pc := 28) dX12_worthOf_28 (by first | rfl | (apply zM_ar <;> assumption)) (by first | rfl | (apply zM_jn <;> assumption)) rfl (by first | assumption | omega) ?_
    rw [hw2 25 (by decide)]
    refine go_isub (pc := 29) dX12_worthOf_29 ?_
    refine go_imul (pc := 30) dX12_worthOf_30 ?_
    refine go_aload_n (i := 0) (pc := 31) dX12_worthOf_31 rfl rfl ?_
    refine go_geti fl_X12_265 (pc := 32) dX12_worthOf_32 (by rfl) ?_
    refine go_top (congrArg Value.int (show _ = nI q.2 by rw [h28, he]; rfl)) ?_
    refine go_isub (pc := 35) dX12_worthOf_35 ?_
    refine go_ireturn (pc := 36) dX12_worthOf_36 rfl ?_
    first
      | exact ⟨by unfold wI; rw [he]; rfl, h27, h28, hF⟩
      | exact ⟨by unfold wI; rw [h8], h27, h28, hF⟩
  · have h8 : eM (easy V ρ c) < 0 := Int32.not_le.mp h8
    rw [eM_neg hsl] at h8
    refine go_iconst (nI 0) (pc := 11) dX12_worthOf_11 (by decide) ?_
    refine go_goto 36 (pc := 12) dX12_worthOf_12 (by decide) ?_
    refine go_ireturn (pc := 36) dX12_worthOf_36 rfl ?_
    first
      | exact ⟨by unfold wI; rw [he]; rfl, h27, h28, hF⟩
      | exact ⟨by unfold wI; rw [h8], h27, h28, hF⟩

