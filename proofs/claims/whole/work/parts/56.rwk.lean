theorem RwIs.cg {σ : zT} {j : Nat} {ρ ρ' : Nat → Nat} (h : RwIs σ j ρ) (e : ∀ i, i < 29 → ρ i = ρ' i) : RwIs σ j ρ' := fun i hi => by rw [← e i hi]; exact h i hi
theorem RwIs.up {σ : zT} {j i v : Nat} {ρ : Nat → Nat} (h : RwIs σ j ρ) : RwIs (uA σ 33 j (upd (σ.2.1 33 j) i (nI v))) j (va_up ρ i v) := by
  intro q hq
  rw [uA_s, upd_at, va_at']
  split
  · rfl
  · exact h q hq
theorem RwIs.ne {σ : zT} {j j2 : Nat} {g : Nat → Int32} {ρ : Nat → Nat} (h : RwIs σ j ρ) (hn : j ≠ j2) : RwIs (uA σ 33 j2 g) j ρ := by
  intro q hq
  rw [uA_2, if_neg (fun e => hn e.2)]
  exact h q hq
theorem RwIs.uS {σ : zT} {j f : Nat} {v : Int32} {ρ : Nat → Nat} (h : RwIs σ j ρ) : RwIs (uS σ 33 f v) j ρ := h
theorem va_up_me (ρ : Nat → Nat) (m : Nat) : va_up ρ m (ρ m) = ρ := by
  funext i
  rw [va_at']
  split
  · subst_vars; rfl
  · rfl
theorem menOth_cg {n m : Nat} {ρ ρ' : Nat → Nat} (hn : n ≤ 12) (e : ∀ i, i < 28 → ρ i = ρ' i) : menOth n ρ m = menOth n ρ' m := sumN_congr (fun i hi => by rw [e (12 + i) (by omega)])
theorem menSum_cg {n : Nat} {ρ ρ' : Nat → Nat} (hn : n ≤ 12) (e : ∀ i, i < 28 → ρ i = ρ' i) : menSum n ρ = menSum n ρ' := sumN_congr (fun i hi => e (12 + i) (by omega))
theorem dng_cg {V : zV} {ρ ρ' : Nat → Nat} {c m : Nat} (hn : vN V ≤ 12) (hm : m < 12) (e : ∀ i, i < 28 → ρ i = ρ' i) : dng V ρ c m = dng V ρ' c m := by
  unfold dng
  rw [menSum_cg hn e, e 24 (by omega), e 27 (by omega), e m (by omega), e (12 + m) (by omega), menOth_cg hn e]
theorem saf_cg {V : zV} {ρ ρ' : Nat → Nat} {c j : Nat} (hn : vN V ≤ 12) (hj : j ≤ 12) (e : ∀ i, i < 28 → ρ i = ρ' i) : saf V ρ c j = saf V ρ' c j := by
  induction j with
  | zero => rfl
  | succ j ih => rw [saf, saf, ih (by omega), dng_cg hn (by omega) e]
theorem easy_cg {V : zV} {ρ ρ' : Nat → Nat} {c : Nat} (hn : vN V ≤ 12) (e : ∀ i, i < 28 → ρ i = ρ' i) : easy V ρ c = easy V ρ' c := saf_cg hn hn e
theorem gos_cg {V : zV} {ρ ρ' : Nat → Nat} {c : Nat} (hn : vN V ≤ 12) (e : ∀ i, i < 28 → ρ i = ρ' i) : gos V ρ c = gos V ρ' c := by
  unfold gos gain
  rw [easy_cg hn e, e 25 (by omega), e 26 (by omega)]
theorem up28 {ρ : Nat → Nat} {v : Nat} : ∀ i, i < 28 → va_up ρ 28 v i = ρ i := fun i hi => by rw [va_at', if_neg (by omega)]
theorem crs_n {V : zV} {st : Nat} {ρ : Nat → Nat} {i : Nat} (h : st.testBit i = true ∨ gos V (crs V st ρ i).2.2.2 i = none) : crs V st ρ (i + 1) = crs V st ρ i := by
  rw [crs]
  rcases h with h | h
  · rw [if_pos h]
  · rw [h]; split <;> rfl
theorem crs_s {V : zV} {st : Nat} {ρ : Nat → Nat} {i m : Nat} (h : ¬ st.testBit i = true) (hg : gos V (crs V st ρ i).2.2.2 i = some m) : crs V st ρ (i + 1) = ((crs V st ρ i).1 + 2 ^ i, (crs V st ρ i).2.1 + vL V i, if vK V i = 4 then (crs V st ρ i).2.2.1 else va_up (crs V st ρ i).2.2.1 m ((crs V st ρ i).2.2.1 m + vL V i), if vK V i = 1 then va_up (crs V st ρ i).2.2.2 m ((crs V st ρ i).2.2.2 m - 2) else (crs V st ρ i).2.2.2) := by
  rw [crs]
  rw [if_neg h, hg]

theorem c_X12_crossings {E : zE} {σ : zT} {V : zV} {j : Nat} {ρ : Nat → Nat} {st : Nat} (hE : EnvR σ V) (hw : RwIs σ j ρ) (hok : RowOK (vN V) ρ) (hj : zM j = true) (hst : st < 2 ^ 12) (h28 : ρ 28 + 72 < 2 ^ 28) : CalM E 7 yX12_crossings cX12_crossings 6 (some .int) [.ref (zA E 33 0), .ref (zA E 33 j), .int (nI st)] σ (fun r σ' => r = some (.int (nI (crsA V st ρ).1)) ∧ (∀ i, i < 12 → σ'.2.1 33 16 i = nI ((crsA V st ρ).2.2.1 i)) ∧ RwIs σ' j (va_up (crsA V st ρ).2.2.2 28 (ρ 28 + (crsA V st ρ).2.1)) ∧ Fr9 [27, 28] [13, 14, 16, j] σ σ') := by
  refine cal_of_go (own := RX12) rfl (by decide +kernel) (Nat.le_of_ble_eq_true rfl) ?_
  have hV := hE.vok hok
  have hn : 1 ≤ vN V ∧ vN V ≤ 12 := ⟨hok.1, hok.2.1⟩
  have hc8 := hE.2.1.1
  have hj16 : j ≠ 16 ∧ j ≠ 13 ∧ j ≠ 14 := (by rcases zM_or hj with rfl | rfl <;> decide)
  have hE9 : ∀ {τ : zT}, Fr9 [27, 28] [13, 14, 16, j] σ τ → EnvR τ V := fun hF => hE.fr hF (by decide) (by rcases zM_or hj with rfl | rfl <;> decide)
  have loop : ∀ (i : Nat) (τ : zT), i ≤ vC V → (∀ q, q < 12 → τ.2.1 33 16 q = nI ((crs V st ρ i).2.2.1 q)) → RwIs τ j (va_up (crs V st ρ i).2.2.2 28 (ρ 28 + (crs V st ρ i).2.1)) → Fr9 [27, 28] [13, 14, 16, j] σ τ → GoM E 7 RX12 cX12_crossings 6 (some .int) (fun r σ' => r = some (.int (nI (crsA V st ρ).1)) ∧ (∀ i, i < 12 → σ'.2.1 33 16 i = nI ((crsA V st ρ).2.2.1 i)) ∧ RwIs σ' j (va_up (crsA V st ρ).2.2.2 28 (ρ 28 + (crsA V st ρ).2.1)) ∧ Fr9 [27, 28] [13, 14, 16, j] σ σ') τ 29 [(0, .ref (zA E 33 0)), (1, .ref (zA E 33 j)), (2, .int (nI st)), (3, .int (nI (crs V st ρ i).1)), (4, .int (nI i))] [] := by
    intro i
    induction hz : vC V - i using Nat.strongRecOn generalizing i with
    | ind z ih =>
      intro τ hi hO hR hF
      have hE2 := hE9 hF
      obtain ⟨k1, k2, k3, k4, k5⟩ := crs_ok (st := st) hV hok i (by omega)
      have hok1 : RowOK (vN V) (va_up (crs V st ρ i).2.2.2 28 (ρ 28 + (crs V st ρ i).2.1)) := k1.hi (Or.inr (Or.inr ⟨Or.inr rfl, by omega⟩))
      have ge := gos_cg (V := V) (c := i) hn.2 (up28 (ρ := (crs V st ρ i).2.2.2) (v := ρ 28 + (crs V st ρ i).2.1))
      refine go_iload (pc := 29) dX12_crossings_29 rfl ?_
      refine go_aload_n (i := 0) (pc := 31) dX12_crossings_31 rfl rfl ?_
      refine go_geti fl_X12_111 (pc := 32) dX12_crossings_32 (by rfl) ?_
      rw [hE2.2.1.2.1]
      refine go_icmp_ge 154 (pc := 35) dX12_crossings_35 (by decide) (fun h35 => ?_) (fun h35 => ?_)
      · first | rw [nI_leI (by omega) (by omega)] at h35 | rw [zi_leN (by omega)] at h35 | rw [zi_Nle (by omega)] at h35 | rw [zi_le] at h35
        have e : i = vC V := by omega
        subst e
        refine go_iload_n (i := 3) (pc := 154) dX12_crossings_154 rfl rfl ?_
        refine go_ireturn (pc := 155) dX12_crossings_155 rfl ?_
        exact ⟨rfl, hO, hR, hF⟩
      · first | rw [nI_leI (by omega) (by omega)] at h35 | rw [zi_leN (by omega)] at h35 | rw [zi_Nle (by omega)] at h35 | rw [zi_le] at h35
        refine go_iload_n (i := 2) (pc := 38) dX12_crossings_38 rfl rfl ?_
        refine go_iload (pc := 39) dX12_crossings_39 rfl ?_
        refine go_callS ml_X12_114 mt_X12_has (pc := 41) dX12_crossings_41 (c_X12_has hst (by omega)) (by decide) (by decide) rfl rfl (Nat.le_of_ble_eq_true rfl) (fun r σ' hp => ?_)
        obtain ⟨rfl, hσ⟩ := hp
        rw [hσ]
        clear hσ σ'
        dsimp only [zRet]
        refine go_if_ne 148 (pc := 44) dX12_crossings_44 (by decide) (fun h44 => ?_) (fun h44 => ?_)
        · rw [zb_0] at h44
          have hb : st.testBit i = true := by cases hq : st.testBit i with | true => rfl | false => exact absurd hq h44
          have es := crs_n (V := V) (ρ := ρ) (Or.inl hb)
          refine go_iincN (pc := 148) dX12_crossings_148 rfl (by decide) ?_
          refine go_goto 29 (pc := 151) dX12_crossings_151 (by decide) ?_
          refine go_drop [0, 1, 2, 3, 4] rfl ?_
          rw [← es]
          first
            | exact ih (vC V - (i + 1)) (by omega) (i + 1) rfl _ (by omega) (by rw [es]; exact hO3) (by rw [es]; exact hR3) hF3
            | exact ih (vC V - (i + 1)) (by omega) (i + 1) rfl _ (by omega) (by rw [es]; exact hO) (by rw [es]; exact hR) hF
        · rw [zb_0] at h44
          have hb : ¬ st.testBit i = true := by rw [h44]; decide
          refine go_aload_n (i := 0) (pc := 47) dX12_crossings_47 rfl rfl ?_
          refine go_aload_n (i := 1) (pc := 48) dX12_crossings_48 rfl rfl ?_
          refine go_iload (pc := 49) dX12_crossings_49 rfl ?_
          refine go_callV ml_X12_289 mt_X12_worthOf (pc := 51) dX12_crossings_51 (c_X12_worthOf hE2 hR hok1 hj (by omega)) (by rfl) rfl (by rfl) (by decide) (by decide) rfl rfl (Nat.le_of_ble_eq_true rfl) (fun r σ' hp => ?_)
          obtain ⟨rfl, h27, -, hF2⟩ := hp
          dsimp only [zRet]
          have hE3 : EnvR σ' V := hE2.fr hF2 (by decide) (by decide)
          have hR3 : RwIs σ' j _ := hR.fr hF2 (by rcases zM_or hj with rfl | rfl <;> decide)
          have hO3 : ∀ q, q < 12 → σ'.2.1 33 16 q = nI ((crs V st ρ i).2.2.1 q) := fun q hq => by rw [hF2.2.2.1 16 (by decide)]; exact hO q hq
          have hF3 : Fr9 [27, 28] [13, 14, 16, j] σ σ' := hF.tr (hF2.mono (by simp) (by simp))
          refine go_if_le 148 (pc := 54) dX12_crossings_54 (by decide) (fun h54 => ?_) (fun h54 => ?_)
          · rw [wI_le hV hok1 (by omega), ge] at h54
            have es := crs_n (V := V) (ρ := ρ) (st := st) (Or.inr h54)
            refine go_iincN (pc := 148) dX12_crossings_148 rfl (by decide) ?_
            refine go_goto 29 (pc := 151) dX12_crossings_151 (by decide) ?_
            refine go_drop [0, 1, 2, 3, 4] rfl ?_
            rw [← es]
            first
              | exact ih (vC V - (i + 1)) (by omega) (i + 1) rfl _ (by omega) (by rw [es]; exact hO3) (by rw [es]; exact hR3) hF3
              | exact ih (vC V - (i + 1)) (by omega) (i + 1) rfl _ (by omega) (by rw [es]; exact hO) (by rw [es]; exact hR) hF
          · rw [wI_le hV hok1 (by omega)] at h54
            obtain ⟨m, hg⟩ := Option.ne_none_iff_exists'.mp h54
            obtain ⟨x, he⟩ := gos_easy hg
            have hmn := gos_lt hV hok1 hg
            rw [ge] at hg
            have et := crs_s hb hg
            have hl9 := hV.2.2.2.1 i (by omega)
            have hom := k5 m
            refine go_aload_n (i := 0) (pc := 57) dX12_crossings_57 rfl rfl ?_
            refine go_geti fl_X12_262 (pc := 58) dX12_crossings_58 (by rfl) ?_
            rw [h27, he]
            dsimp only [eM]
            refine go_istore (pc := 61) dX12_crossings_61 (by decide) ?_
            refine go_iload_n (i := 3) (pc := 63) dX12_crossings_63 rfl rfl ?_
            refine go_iconst (nI 1) (pc := 64) dX12_crossings_64 (by decide) ?_
            refine go_iload (pc := 65) dX12_crossings_65 rfl ?_
            refine go_ishl (pc := 67) dX12_crossings_67 ?_
            refine go_ior (pc := 68) dX12_crossings_68 ?_
            rw [zor2 k4 (by omega)]
            refine go_istore_n (i := 3) (pc := 69) dX12_crossings_69 rfl (by decide) ?_
            refine go_aload_n (i := 1) (pc := 70) dX12_crossings_70 rfl rfl ?_
            refine go_bipush (nI 28) (pc := 71) dX12_crossings_71 (by decide) ?_
            refine go_dup2 (pc := 73) dX12_crossings_73 rfl rfl ?_
            refine go_iaload 28 (pc := 74) dX12_crossings_74 (zM_ar hj) (zM_jn hj) rfl (by decide) ?_
            rw [hR3 28 (by decide)]
            refine go_aload_n (i := 0) (pc := 75) dX12_crossings_75 rfl rfl ?_
            refine go_getr2 fl_X12_27 (pc := 76) dX12_crossings_76 (by rfl) (by rfl) (by rfl) ?_
            refine go_iload (pc := 79) dX12_crossings_79 rfl ?_
            refine go_iaload _ (pc := 81) dX12_crossings_81 (by first | rfl | (apply zM_ar <;> assumption)) (by first | rfl | (apply zM_jn <;> assumption)) rfl (by first | assumption | omega) ?_
            rw [(hE3.2.1.2.2 i (by omega)).2.1]
            first | with_reducible refine go_iaddN (pc := 82) dX12_crossings_82 ?_ | refine go_iadd (pc := 82) dX12_crossings_82 ?_
            refine go_iastore 28 (pc := 83) dX12_crossings_83 (zM_ar hj) (zM_jn hj) rfl (by decide) ?_
            have hR4 := hR3.up (i := 28) (v := va_up (crs V st ρ i).2.2.2 28 (ρ 28 + (crs V st ρ i).2.1) 28 + vL V i)
            have hO4 : ∀ q, q < 12 → (uA σ' 33 j (upd (σ'.2.1 33 j) 28 (nI (va_up (crs V st ρ i).2.2.2 28 (ρ 28 + (crs V st ρ i).2.1) 28 + vL V i)))).2.1 33 16 q = nI ((crs V st ρ i).2.2.1 q) := fun q hq => by rw [uA_2, if_neg (fun e => hj16.1 e.2.symm)]; exact hO3 q hq
            have hF4 : Fr9 [27, 28] [13, 14, 16, j] σ (uA σ' 33 j (upd (σ'.2.1 33 j) 28 (nI (va_up (crs V st ρ i).2.2.2 28 (ρ 28 + (crs V st ρ i).2.1) 28 + vL V i)))) := hF3.uA (by simp)
            generalize uA σ' 33 j (upd (σ'.2.1 33 j) 28 (nI (va_up (crs V st ρ i).2.2.2 28 (ρ 28 + (crs V st ρ i).2.1) 28 + vL V i))) = τ4 at hR4 hO4 hF4 ⊢
            have hE4 := hE9 hF4
            refine go_aload_n (i := 0) (pc := 84) dX12_crossings_84 rfl rfl ?_
            refine go_getr2 fl_X12_63 (pc := 85) dX12_crossings_85 (by rfl) (by rfl) (by rfl) ?_
            refine go_iload (pc := 88) dX12_crossings_88 rfl ?_
            refine go_dup2 (pc := 90) dX12_crossings_90 rfl rfl ?_
            refine go_iaload m (pc := 91) dX12_crossings_91 rfl rfl rfl (by omega) ?_
            rw [hO4 m (by omega)]
            refine go_aload_n (i := 0) (pc := 92) dX12_crossings_92 rfl rfl ?_
            refine go_getr2 fl_X12_24 (pc := 93) dX12_crossings_93 (by rfl) (by rfl) (by rfl) ?_
            refine go_iload (pc := 96) dX12_crossings_96 rfl ?_
            refine go_iaload _ (pc := 98) dX12_crossings_98 (by first | rfl | (apply zM_ar <;> assumption)) (by first | rfl | (apply zM_jn <;> assumption)) rfl (by first | assumption | omega) ?_
            rw [(hE4.2.1.2.2 i (by omega)).1]
            refine go_iconst (nI 3) (pc := 99) dX12_crossings_99 (by decide) ?_
            refine go_icmp_le 107 (pc := 100) dX12_crossings_100 (by decide) (fun h100 => ?_) (fun h100 => ?_)
            · first | rw [nI_leI (by omega) (by omega)] at h100 | rw [zi_leN (by omega)] at h100 | rw [zi_Nle (by omega)] at h100 | rw [zi_le] at h100
              have hk4 : ¬ vK V i = 4 := by omega
              have kN := trivial
              refine go_aload_n (i := 0) (pc := 107) dX12_crossings_107 rfl rfl ?_
              refine go_getr2 fl_X12_27 (pc := 108) dX12_crossings_108 (by rfl) (by rfl) (by rfl) ?_
              refine go_iload (pc := 111) dX12_crossings_111 rfl ?_
              refine go_iaload _ (pc := 113) dX12_crossings_113 (by first | rfl | (apply zM_ar <;> assumption)) (by first | rfl | (apply zM_jn <;> assumption)) rfl (by first | assumption | omega) ?_
              rw [(hE4.2.1.2.2 i (by omega)).2.1]
              refine go_top (congrArg (fun z => Value.int (nI z)) (show _ = (if vK V i = 4 then 0 else vL V i) by first | rw [if_pos hk4] | rw [if_neg hk4])) ?_
              refine go_iaddN (pc := 114) dX12_crossings_114 ?_
              refine go_iastore m (pc := 115) dX12_crossings_115 rfl rfl rfl (by omega) ?_
              have hR5 := hR4.ne (j2 := 16) (g := upd (τ4.2.1 33 16) m (nI ((crs V st ρ i).2.2.1 m + (if vK V i = 4 then 0 else vL V i)))) hj16.1
              have hO5 : ∀ q, q < 12 → (uA τ4 33 16 (upd (τ4.2.1 33 16) m (nI ((crs V st ρ i).2.2.1 m + (if vK V i = 4 then 0 else vL V i))))).2.1 33 16 q = nI ((if vK V i = 4 then (crs V st ρ i).2.2.1 else va_up (crs V st ρ i).2.2.1 m ((crs V st ρ i).2.2.1 m + vL V i)) q) := fun q hq => by
                rw [uA_s, upd_at]
                by_cases hk : vK V i = 4
                · rw [if_pos hk, if_pos hk]
                  split
                  · rename_i e; rw [e]; rfl
                  · exact hO4 q hq
                · rw [if_neg hk, if_neg hk, va_at']
                  split
                  · rfl
                  · exact hO4 q hq
              have hF5 : Fr9 [27, 28] [13, 14, 16, j] σ (uA τ4 33 16 (upd (τ4.2.1 33 16) m (nI ((crs V st ρ i).2.2.1 m + (if vK V i = 4 then 0 else vL V i))))) := hF4.uA (by simp)
              generalize uA τ4 33 16 (upd (τ4.2.1 33 16) m (nI ((crs V st ρ i).2.2.1 m + (if vK V i = 4 then 0 else vL V i)))) = τ5 at hR5 hO5 hF5 ⊢
              have hE5 := hE9 hF5
              refine go_aload_n (i := 1) (pc := 116) dX12_crossings_116 rfl rfl ?_
              refine go_iload (pc := 117) dX12_crossings_117 rfl ?_
              refine go_aload_n (i := 0) (pc := 119) dX12_crossings_119 rfl rfl ?_
              refine go_getr2 fl_X12_24 (pc := 120) dX12_crossings_120 (by rfl) (by rfl) (by rfl) ?_
              refine go_iload (pc := 123) dX12_crossings_123 rfl ?_
              refine go_iaload _ (pc := 125) dX12_crossings_125 (by first | rfl | (apply zM_ar <;> assumption)) (by first | rfl | (apply zM_jn <;> assumption)) rfl (by first | assumption | omega) ?_
              rw [(hE5.2.1.2.2 i (by omega)).1]
              refine go_iconst (nI 1) (pc := 126) dX12_crossings_126 (by decide) ?_
              refine go_icmp_ne 143 (pc := 127) dX12_crossings_127 (by decide) (fun h127 => ?_) (fun h127 => ?_)
              · first | rw [nI_eq (by omega) (by omega)] at h127 | rw [zi_eqN (by omega)] at h127 | rw [zi_Neq (by omega)] at h127 | rw [zi_eq] at h127
                have hk1 : ¬ vK V i = 1 := by omega
                refine go_aload_n (i := 1) (pc := 143) dX12_crossings_143 rfl rfl ?_
                refine go_iload (pc := 144) dX12_crossings_144 rfl ?_
                refine go_iaload m (pc := 146) dX12_crossings_146 (zM_ar hj) (zM_jn hj) rfl (by omega) ?_
                rw [hR5 m (by omega)]
                rw [show va_up (va_up (crs V st ρ i).2.2.2 28 (ρ 28 + (crs V st ρ i).2.1)) 28 (va_up (crs V st ρ i).2.2.2 28 (ρ 28 + (crs V st ρ i).2.1) 28 + vL V i) m = (crs V st ρ i).2.2.2 m by rw [va_at', if_neg (by omega), va_at', if_neg (by omega)]]
                refine go_top (congrArg (fun z => Value.int (nI z)) (show _ = (if vK V i = 1 then (crs V st ρ i).2.2.2 m - 2 else (crs V st ρ i).2.2.2 m) by first | rw [if_pos hk1] | rw [if_neg hk1])) ?_
                refine go_iastore m (pc := 147) dX12_crossings_147 (zM_ar hj) (zM_jn hj) rfl (by omega) ?_
                refine go_iincN (pc := 148) dX12_crossings_148 rfl (by decide) ?_
                refine go_goto 29 (pc := 151) dX12_crossings_151 (by decide) ?_
                rw [show nI ((crs V st ρ i).1 + 2 ^ i) = nI (crs V st ρ (i + 1)).1 by rw [et]]
                refine go_drop [0, 1, 2, 3, 4] rfl ?_
                refine ih (vC V - (i + 1)) (by omega) (i + 1) rfl _ (by omega) ?_ ?_ (hF5.uA (by simp))
                · intro q hq
                  rw [uA_2, if_neg (fun e => hj16.1 e.2.symm), hO5 q hq, et]
                · refine hR5.up.cg (fun q hq => ?_)
                  rw [et]
                  dsimp only
                  by_cases hk : vK V i = 1
                  · rw [if_pos hk, if_pos hk]
                    simp only [va_at']
                    (repeat' split) <;> first | rfl | omega
                  · rw [if_neg hk, if_neg hk]
                    simp only [va_at']
                    (repeat' split) <;> first | rfl | omega | (subst_vars; first | rfl | omega)
              · first | rw [nI_eq (by omega) (by omega)] at h127 | rw [zi_eqN (by omega)] at h127 | rw [zi_Neq (by omega)] at h127 | rw [zi_eq] at h127
                have hk1 : vK V i = 1 := by omega
                refine go_iconst (nI 0) (pc := 130) dX12_crossings_130 (by decide) ?_
                refine go_aload_n (i := 1) (pc := 131) dX12_crossings_131 rfl rfl ?_
                refine go_iload (pc := 132) dX12_crossings_132 rfl ?_
                refine go_iaload m (pc := 134) dX12_crossings_134 (zM_ar hj) (zM_jn hj) rfl (by omega) ?_
                rw [hR5 m (by omega)]
                have hm9 := hok1.2.2.1 m (by omega)
                rw [show va_up (va_up (crs V st ρ i).2.2.2 28 (ρ 28 + (crs V st ρ i).2.1)) 28 (va_up (crs V st ρ i).2.2.2 28 (ρ 28 + (crs V st ρ i).2.1) 28 + vL V i) m = (crs V st ρ i).2.2.2 m by rw [va_at', if_neg (by omega), va_at', if_neg (by omega)]]
                rw [va_at', if_neg (by omega)] at hm9
                refine go_iconst (nI 2) (pc := 135) dX12_crossings_135 (by decide) ?_
                refine go_isub (pc := 136) dX12_crossings_136 ?_
                refine go_callS ml_X12_244 mt_J9_max_7cf53 (pc := 137) dX12_crossings_137 (c_J9_max_7cf53) (by decide) (by decide) rfl rfl (Nat.le_of_ble_eq_true rfl) (fun r σ' hp => ?_)
                obtain ⟨rfl, hσ⟩ := hp
                rw [hσ]
                clear hσ σ'
                dsimp only [zRet]
                rw [maxSub (by omega) (by decide)]
                refine go_goto 147 (pc := 140) dX12_crossings_140 (by decide) ?_
                refine go_top (congrArg (fun z => Value.int (nI z)) (show _ = (if vK V i = 1 then (crs V st ρ i).2.2.2 m - 2 else (crs V st ρ i).2.2.2 m) by first | rw [if_pos hk1] | rw [if_neg hk1])) ?_
                refine go_iastore m (pc := 147) dX12_crossings_147 (zM_ar hj) (zM_jn hj) rfl (by omega) ?_
                refine go_iincN (pc := 148) dX12_crossings_148 rfl (by decide) ?_
                refine go_goto 29 (pc := 151) dX12_crossings_151 (by decide) ?_
                rw [show nI ((crs V st ρ i).1 + 2 ^ i) = nI (crs V st ρ (i + 1)).1 by rw [et]]
                refine go_drop [0, 1, 2, 3, 4] rfl ?_
                refine ih (vC V - (i + 1)) (by omega) (i + 1) rfl _ (by omega) ?_ ?_ (hF5.uA (by simp))
                · intro q hq
                  rw [uA_2, if_neg (fun e => hj16.1 e.2.symm), hO5 q hq, et]
                · refine hR5.up.cg (fun q hq => ?_)
                  rw [et]
                  dsimp only
                  by_cases hk : vK V i = 1
                  · rw [if_pos hk, if_pos hk]
                    simp only [va_at']
                    (repeat' split) <;> first | rfl | omega
                  · rw [if_neg hk, if_neg hk]
                    simp only [va_at']
                    (repeat' split) <;> first | rfl | omega | (subst_vars; first | rfl | omega)
            · first | rw [nI_leI (by omega) (by omega)] at h100 | rw [zi_leN (by omega)] at h100 | rw [zi_Nle (by omega)] at h100 | rw [zi_le] at h100
              have hk4 : vK V i = 4 := by omega
              have kZ := trivial
              refine go_iconst (nI 0) (pc := 103) dX12_crossings_103 (by decide) ?_
              refine go_goto 114 (pc := 104) dX12_crossings_104 (by decide) ?_
              refine go_top (congrArg (fun z => Value.int (nI z)) (show _ = (if vK V i = 4 then 0 else vL V i) by first | rw [if_pos hk4] | rw [if_neg hk4])) ?_
              refine go_iaddN (pc := 114) dX12_crossings_114 ?_
              refine go_iastore m (pc := 115) dX12_crossings_115 rfl rfl rfl (by omega) ?_
              have hR5 := hR4.ne (j2 := 16) (g := upd (τ4.2.1 33 16) m (nI ((crs V st ρ i).2.2.1 m + (if vK V i = 4 then 0 else vL V i)))) hj16.1
              have hO5 : ∀ q, q < 12 → (uA τ4 33 16 (upd (τ4.2.1 33 16) m (nI ((crs V st ρ i).2.2.1 m + (if vK V i = 4 then 0 else vL V i))))).2.1 33 16 q = nI ((if vK V i = 4 then (crs V st ρ i).2.2.1 else va_up (crs V st ρ i).2.2.1 m ((crs V st ρ i).2.2.1 m + vL V i)) q) := fun q hq => by
                rw [uA_s, upd_at]
                by_cases hk : vK V i = 4
                · rw [if_pos hk, if_pos hk]
                  split
                  · rename_i e; rw [e]; rfl
                  · exact hO4 q hq
                · rw [if_neg hk, if_neg hk, va_at']
                  split
                  · rfl
                  · exact hO4 q hq
              have hF5 : Fr9 [27, 28] [13, 14, 16, j] σ (uA τ4 33 16 (upd (τ4.2.1 33 16) m (nI ((crs V st ρ i).2.2.1 m + (if vK V i = 4 then 0 else vL V i))))) := hF4.uA (by simp)
              generalize uA τ4 33 16 (upd (τ4.2.1 33 16) m (nI ((crs V st ρ i).2.2.1 m + (if vK V i = 4 then 0 else vL V i)))) = τ5 at hR5 hO5 hF5 ⊢
              have hE5 := hE9 hF5
              refine go_aload_n (i := 1) (pc := 116) dX12_crossings_116 rfl rfl ?_
              refine go_iload (pc := 117) dX12_crossings_117 rfl ?_
              refine go_aload_n (i := 0) (pc := 119) dX12_crossings_119 rfl rfl ?_
              refine go_getr2 fl_X12_24 (pc := 120) dX12_crossings_120 (by rfl) (by rfl) (by rfl) ?_
              refine go_iload (pc := 123) dX12_crossings_123 rfl ?_
              refine go_iaload _ (pc := 125) dX12_crossings_125 (by first | rfl | (apply zM_ar <;> assumption)) (by first | rfl | (apply zM_jn <;> assumption)) rfl (by first | assumption | omega) ?_
              rw [(hE5.2.1.2.2 i (by omega)).1]
              refine go_iconst (nI 1) (pc := 126) dX12_crossings_126 (by decide) ?_
              refine go_icmp_ne 143 (pc := 127) dX12_crossings_127 (by decide) (fun h127 => ?_) (fun h127 => ?_)
              · first | rw [nI_eq (by omega) (by omega)] at h127 | rw [zi_eqN (by omega)] at h127 | rw [zi_Neq (by omega)] at h127 | rw [zi_eq] at h127
                have hk1 : ¬ vK V i = 1 := by omega
                refine go_aload_n (i := 1) (pc := 143) dX12_crossings_143 rfl rfl ?_
                refine go_iload (pc := 144) dX12_crossings_144 rfl ?_
                refine go_iaload m (pc := 146) dX12_crossings_146 (zM_ar hj) (zM_jn hj) rfl (by omega) ?_
                rw [hR5 m (by omega)]
                rw [show va_up (va_up (crs V st ρ i).2.2.2 28 (ρ 28 + (crs V st ρ i).2.1)) 28 (va_up (crs V st ρ i).2.2.2 28 (ρ 28 + (crs V st ρ i).2.1) 28 + vL V i) m = (crs V st ρ i).2.2.2 m by rw [va_at', if_neg (by omega), va_at', if_neg (by omega)]]
                refine go_top (congrArg (fun z => Value.int (nI z)) (show _ = (if vK V i = 1 then (crs V st ρ i).2.2.2 m - 2 else (crs V st ρ i).2.2.2 m) by first | rw [if_pos hk1] | rw [if_neg hk1])) ?_
                refine go_iastore m (pc := 147) dX12_crossings_147 (zM_ar hj) (zM_jn hj) rfl (by omega) ?_
                refine go_iincN (pc := 148) dX12_crossings_148 rfl (by decide) ?_
                refine go_goto 29 (pc := 151) dX12_crossings_151 (by decide) ?_
                rw [show nI ((crs V st ρ i).1 + 2 ^ i) = nI (crs V st ρ (i + 1)).1 by rw [et]]
                refine go_drop [0, 1, 2, 3, 4] rfl ?_
                refine ih (vC V - (i + 1)) (by omega) (i + 1) rfl _ (by omega) ?_ ?_ (hF5.uA (by simp))
                · intro q hq
                  rw [uA_2, if_neg (fun e => hj16.1 e.2.symm), hO5 q hq, et]
                · refine hR5.up.cg (fun q hq => ?_)
                  rw [et]
                  dsimp only
                  by_cases hk : vK V i = 1
                  · rw [if_pos hk, if_pos hk]
                    simp only [va_at']
                    (repeat' split) <;> first | rfl | omega
                  · rw [if_neg hk, if_neg hk]
                    simp only [va_at']
                    (repeat' split) <;> first | rfl | omega | (subst_vars; first | rfl | omega)
              · first | rw [nI_eq (by omega) (by omega)] at h127 | rw [zi_eqN (by omega)] at h127 | rw [zi_Neq (by omega)] at h127 | rw [zi_eq] at h127
                have hk1 : vK V i = 1 := by omega
                refine go_iconst (nI 0) (pc := 130) dX12_crossings_130 (by decide) ?_
                refine go_aload_n (i := 1) (pc := 131) dX12_crossings_131 rfl rfl ?_
                refine go_iload (pc := 132) dX12_crossings_132 rfl ?_
                refine go_iaload m (pc := 134) dX12_crossings_134 (zM_ar hj) (zM_jn hj) rfl (by omega) ?_
                rw [hR5 m (by omega)]
                have hm9 := hok1.2.2.1 m (by omega)
                rw [show va_up (va_up (crs V st ρ i).2.2.2 28 (ρ 28 + (crs V st ρ i).2.1)) 28 (va_up (crs V st ρ i).2.2.2 28 (ρ 28 + (crs V st ρ i).2.1) 28 + vL V i) m = (crs V st ρ i).2.2.2 m by rw [va_at', if_neg (by omega), va_at', if_neg (by omega)]]
                rw [va_at', if_neg (by omega)] at hm9
                refine go_iconst (nI 2) (pc := 135) dX12_crossings_135 (by decide) ?_
                refine go_isub (pc := 136) dX12_crossings_136 ?_
                refine go_callS ml_X12_244 mt_J9_max_7cf53 (pc := 137) dX12_crossings_137 (c_J9_max_7cf53) (by decide) (by decide) rfl rfl (Nat.le_of_ble_eq_true rfl) (fun r σ' hp => ?_)
                obtain ⟨rfl, hσ⟩ := hp
                rw [hσ]
                clear hσ σ'
                dsimp only [zRet]
                rw [maxSub (by omega) (by decide)]
                refine go_goto 147 (pc := 140) dX12_crossings_140 (by decide) ?_
                refine go_top (congrArg (fun z => Value.int (nI z)) (show _ = (if vK V i = 1 then (crs V st ρ i).2.2.2 m - 2 else (crs V st ρ i).2.2.2 m) by first | rw [if_pos hk1] | rw [if_neg hk1])) ?_
                refine go_iastore m (pc := 147) dX12_crossings_147 (zM_ar hj) (zM_jn hj) rfl (by omega) ?_
                refine go_iincN (pc := 148) dX12_crossings_148 rfl (by decide) ?_
                refine go_goto 29 (pc := 151) dX12_crossings_151 (by decide) ?_
                rw [show nI ((crs V st ρ i).1 + 2 ^ i) = nI (crs V st ρ (i + 1)).1 by rw [et]]
                refine go_drop [0, 1, 2, 3, 4] rfl ?_
                refine ih (vC V - (i + 1)) (by omega) (i + 1) rfl _ (by omega) ?_ ?_ (hF5.uA (by simp))
                · intro q hq
                  rw [uA_2, if_neg (fun e => hj16.1 e.2.symm), hO5 q hq, et]
                · refine hR5.up.cg (fun q hq => ?_)
                  rw [et]
                  dsimp only
                  by_cases hk : vK V i = 1
                  · rw [if_pos hk, if_pos hk]
                    simp only [va_at']
                    (repeat' split) <;> first | rfl | omega
                  · rw [if_neg hk, if_neg hk]
                    simp only [va_at']
                    (repeat' split) <;> first | rfl | omega | (subst_vars; first | rfl | omega)
  have loop0 : ∀ (i : Nat) (τ : zT), i ≤ 12 → (∀ q, q < i → τ.2.1 33 16 q = nI 0) → Fr9 [27, 28] [13, 14, 16, j] σ τ → RwIs τ j ρ → GoM E 7 RX12 cX12_crossings 6 (some .int) (fun r σ' => r = some (.int (nI (crsA V st ρ).1)) ∧ (∀ i, i < 12 → σ'.2.1 33 16 i = nI ((crsA V st ρ).2.2.1 i)) ∧ RwIs σ' j (va_up (crsA V st ρ).2.2.2 28 (ρ 28 + (crsA V st ρ).2.1)) ∧ Fr9 [27, 28] [13, 14, 16, j] σ σ') τ 5 [(0, .ref (zA E 33 0)), (1, .ref (zA E 33 j)), (2, .int (nI st)), (3, .int (nI 0)), (4, .int (nI i))] [] := by
    intro i
    induction hz : 12 - i using Nat.strongRecOn generalizing i with
    | ind z ih =>
      intro τ hi hO hF hRw
      refine go_iload (pc := 5) dX12_crossings_5 rfl ?_
      refine go_bipush (nI 12) (pc := 7) dX12_crossings_7 (by decide) ?_
      refine go_icmp_ge 26 (pc := 9) dX12_crossings_9 (by decide) (fun h9 => ?_) (fun h9 => ?_)
      · first | rw [nI_leI (by omega) (by omega)] at h9 | rw [zi_leN (by omega)] at h9 | rw [zi_Nle (by omega)] at h9 | rw [zi_le] at h9
        have e : i = 12 := by omega
        subst e
        refine go_iconst (nI 0) (pc := 26) dX12_crossings_26 (by decide) ?_
        refine go_istore (pc := 27) dX12_crossings_27 (by decide) ?_
        exact loop 0 _ (by omega) hO (hRw.cg (fun q hq => by show ρ q = va_up ρ 28 (ρ 28) q; rw [va_up_me])) hF
      · first | rw [nI_leI (by omega) (by omega)] at h9 | rw [zi_leN (by omega)] at h9 | rw [zi_Nle (by omega)] at h9 | rw [zi_le] at h9
        refine go_aload_n (i := 0) (pc := 12) dX12_crossings_12 rfl rfl ?_
        refine go_getr2 fl_X12_63 (pc := 13) dX12_crossings_13 (by rfl) (by rfl) (by rfl) ?_
        refine go_iload (pc := 16) dX12_crossings_16 rfl ?_
        refine go_iconst (nI 0) (pc := 18) dX12_crossings_18 (by decide) ?_
        refine go_iastore _ (pc := 19) dX12_crossings_19 (by first | rfl | (apply zM_ar <;> assumption)) (by first | rfl | (apply zM_jn <;> assumption)) rfl (by first | assumption | omega) ?_
        refine go_iincN (pc := 20) dX12_crossings_20 rfl (by decide) ?_
        refine go_goto 5 (pc := 23) dX12_crossings_23 (by decide) ?_
        exact ih (12 - (i + 1)) (by omega) (i + 1) rfl _ (by omega) (fun q hq => by rw [uA_s, upd_at]; split; rfl; exact hO q (by omega)) (hF.uA (by simp)) (hRw.ne hj16.1)
  refine go_iconst (nI 0) (pc := 0) dX12_crossings_0 (by decide) ?_
  refine go_istore_n (i := 3) (pc := 1) dX12_crossings_1 rfl (by decide) ?_
  refine go_iconst (nI 0) (pc := 2) dX12_crossings_2 (by decide) ?_
  refine go_istore (pc := 3) dX12_crossings_3 (by decide) ?_
  exact loop0 0 σ (by omega) (fun q hq => absurd hq (by omega)) Fr9.rf hw

