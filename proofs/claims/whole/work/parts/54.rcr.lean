theorem c_flagN {E : zE} {σ : zT} {k : Nat} (hk : k ≤ 1) : CalM E 0 yX12_flag cX12_flag 1 (some .int) [.int (nI k)] σ (fun r σ' => r = some (.int (nI k)) ∧ σ' = σ) := by
  have h : k = 0 ∨ k = 1 := by omega
  rcases h with rfl | rfl
  · exact c_X12_flag (b := false)
  · exact c_X12_flag (b := true)

theorem c_X12_worked0 {E : zE} {σ : zT} {x y : Int32}  : CalM E 1 yX12_worked cX12_worked 3 (some .int) [.int (nI 0), .int x, .int y] σ (fun r σ' => r = some (.int (wkd 0 x y)) ∧ σ' = σ) := by
  refine cal_of_go (own := RX12) rfl (by decide +kernel) (Nat.le_of_ble_eq_true rfl) ?_
  refine go_iload_n (i := 0) (pc := 0) dX12_worked_0 rfl rfl ?_
  refine go_tableIn 40 (off := 39) (pc := 1) dX12_worked_1 (by decide) (by decide) (by decide) (by decide) ?_
  refine go_iload_n (i := 1) (pc := 40) dX12_worked_40 rfl rfl ?_
  refine go_iload_n (i := 2) (pc := 41) dX12_worked_41 rfl rfl ?_
  refine go_icmp_ge 49 (pc := 42) dX12_worked_42 (by decide) (fun h42 => ?_) (fun h42 => ?_)
  · refine go_iconst (nI 0) (pc := 49) dX12_worked_49 (by decide) ?_
    refine go_callS ml_X12_136 mt_X12_flag (pc := 50) dX12_worked_50 (c_flagN (by decide)) (by decide) (by decide) rfl rfl (Nat.le_of_ble_eq_true rfl) (fun r σ' hp => ?_)
    obtain ⟨rfl, hσ⟩ := hp
    rw [hσ]
    clear hσ σ'
    dsimp only [zRet]
    refine go_ireturn (pc := 53) dX12_worked_53 rfl ?_
    refine ⟨?_, rfl⟩
    unfold wkd
    first | rw [if_pos rfl, if_pos (by first | assumption | exact Int32.not_le.mp (by assumption))] | rw [if_pos rfl, if_neg (by first | assumption | exact Int32.not_lt.mpr (by assumption))]
  · refine go_iconst (nI 1) (pc := 45) dX12_worked_45 (by decide) ?_
    refine go_goto 50 (pc := 46) dX12_worked_46 (by decide) ?_
    refine go_callS ml_X12_136 mt_X12_flag (pc := 50) dX12_worked_50 (c_flagN (by decide)) (by decide) (by decide) rfl rfl (Nat.le_of_ble_eq_true rfl) (fun r σ' hp => ?_)
    obtain ⟨rfl, hσ⟩ := hp
    rw [hσ]
    clear hσ σ'
    dsimp only [zRet]
    refine go_ireturn (pc := 53) dX12_worked_53 rfl ?_
    refine ⟨?_, rfl⟩
    unfold wkd
    first | rw [if_pos rfl, if_pos (by first | assumption | exact Int32.not_le.mp (by assumption))] | rw [if_pos rfl, if_neg (by first | assumption | exact Int32.not_lt.mpr (by assumption))]

theorem c_X12_worked1 {E : zE} {σ : zT} {x y : Int32}  : CalM E 1 yX12_worked cX12_worked 3 (some .int) [.int (nI 1), .int x, .int y] σ (fun r σ' => r = some (.int (wkd 1 x y)) ∧ σ' = σ) := by
  refine cal_of_go (own := RX12) rfl (by decide +kernel) (Nat.le_of_ble_eq_true rfl) ?_
  refine go_iload_n (i := 0) (pc := 0) dX12_worked_0 rfl rfl ?_
  refine go_tableIn 54 (off := 53) (pc := 1) dX12_worked_1 (by decide) (by decide) (by decide) (by decide) ?_
  refine go_iload_n (i := 1) (pc := 54) dX12_worked_54 rfl rfl ?_
  refine go_iload_n (i := 2) (pc := 55) dX12_worked_55 rfl rfl ?_
  refine go_icmp_le 63 (pc := 56) dX12_worked_56 (by decide) (fun h56 => ?_) (fun h56 => ?_)
  · refine go_iconst (nI 0) (pc := 63) dX12_worked_63 (by decide) ?_
    refine go_callS ml_X12_136 mt_X12_flag (pc := 64) dX12_worked_64 (c_flagN (by decide)) (by decide) (by decide) rfl rfl (Nat.le_of_ble_eq_true rfl) (fun r σ' hp => ?_)
    obtain ⟨rfl, hσ⟩ := hp
    rw [hσ]
    clear hσ σ'
    dsimp only [zRet]
    refine go_ireturn (pc := 67) dX12_worked_67 rfl ?_
    refine ⟨?_, rfl⟩
    unfold wkd
    rw [if_neg (by decide), if_pos rfl]
    first | rw [if_pos (by first | assumption | exact Int32.not_le.mp (by assumption))] | rw [if_neg (by first | assumption | exact Int32.not_lt.mpr (by assumption))]
  · refine go_iconst (nI 1) (pc := 59) dX12_worked_59 (by decide) ?_
    refine go_goto 64 (pc := 60) dX12_worked_60 (by decide) ?_
    refine go_callS ml_X12_136 mt_X12_flag (pc := 64) dX12_worked_64 (c_flagN (by decide)) (by decide) (by decide) rfl rfl (Nat.le_of_ble_eq_true rfl) (fun r σ' hp => ?_)
    obtain ⟨rfl, hσ⟩ := hp
    rw [hσ]
    clear hσ σ'
    dsimp only [zRet]
    refine go_ireturn (pc := 67) dX12_worked_67 rfl ?_
    refine ⟨?_, rfl⟩
    unfold wkd
    rw [if_neg (by decide), if_pos rfl]
    first | rw [if_pos (by first | assumption | exact Int32.not_le.mp (by assumption))] | rw [if_neg (by first | assumption | exact Int32.not_lt.mpr (by assumption))]

theorem c_X12_worked2 {E : zE} {σ : zT} {x y : Int32}  : CalM E 1 yX12_worked cX12_worked 3 (some .int) [.int (nI 2), .int x, .int y] σ (fun r σ' => r = some (.int (wkd 2 x y)) ∧ σ' = σ) := by
  refine cal_of_go (own := RX12) rfl (by decide +kernel) (Nat.le_of_ble_eq_true rfl) ?_
  refine go_iload_n (i := 0) (pc := 0) dX12_worked_0 rfl rfl ?_
  refine go_tableIn 68 (off := 67) (pc := 1) dX12_worked_1 (by decide) (by decide) (by decide) (by decide) ?_
  refine go_iload_n (i := 1) (pc := 68) dX12_worked_68 rfl rfl ?_
  refine go_iload_n (i := 2) (pc := 69) dX12_worked_69 rfl rfl ?_
  refine go_icmp_ne 77 (pc := 70) dX12_worked_70 (by decide) (fun h70 => ?_) (fun h70 => ?_)
  · refine go_iconst (nI 0) (pc := 77) dX12_worked_77 (by decide) ?_
    refine go_callS ml_X12_136 mt_X12_flag (pc := 78) dX12_worked_78 (c_flagN (by decide)) (by decide) (by decide) rfl rfl (Nat.le_of_ble_eq_true rfl) (fun r σ' hp => ?_)
    obtain ⟨rfl, hσ⟩ := hp
    rw [hσ]
    clear hσ σ'
    dsimp only [zRet]
    refine go_ireturn (pc := 81) dX12_worked_81 rfl ?_
    refine ⟨?_, rfl⟩
    unfold wkd
    rw [if_neg (by decide), if_neg (by decide), if_pos rfl]
    first | rw [if_pos (by first | assumption | exact Decidable.not_not.mp (by assumption))] | rw [if_neg (by assumption)]
  · refine go_iconst (nI 1) (pc := 73) dX12_worked_73 (by decide) ?_
    refine go_goto 78 (pc := 74) dX12_worked_74 (by decide) ?_
    refine go_callS ml_X12_136 mt_X12_flag (pc := 78) dX12_worked_78 (c_flagN (by decide)) (by decide) (by decide) rfl rfl (Nat.le_of_ble_eq_true rfl) (fun r σ' hp => ?_)
    obtain ⟨rfl, hσ⟩ := hp
    rw [hσ]
    clear hσ σ'
    dsimp only [zRet]
    refine go_ireturn (pc := 81) dX12_worked_81 rfl ?_
    refine ⟨?_, rfl⟩
    unfold wkd
    rw [if_neg (by decide), if_neg (by decide), if_pos rfl]
    first | rw [if_pos (by first | assumption | exact Decidable.not_not.mp (by assumption))] | rw [if_neg (by assumption)]

theorem c_X12_worked3 {E : zE} {σ : zT} {x y : Int32}  : CalM E 1 yX12_worked cX12_worked 3 (some .int) [.int (nI 3), .int x, .int y] σ (fun r σ' => r = some (.int (wkd 3 x y)) ∧ σ' = σ) := by
  refine cal_of_go (own := RX12) rfl (by decide +kernel) (Nat.le_of_ble_eq_true rfl) ?_
  refine go_iload_n (i := 0) (pc := 0) dX12_worked_0 rfl rfl ?_
  refine go_tableIn 82 (off := 81) (pc := 1) dX12_worked_1 (by decide) (by decide) (by decide) (by decide) ?_
  refine go_iload_n (i := 1) (pc := 82) dX12_worked_82 rfl rfl ?_
  refine go_iload_n (i := 2) (pc := 83) dX12_worked_83 rfl rfl ?_
  refine go_iadd (pc := 84) dX12_worked_84 ?_
  refine go_ireturn (pc := 85) dX12_worked_85 rfl ?_
  refine ⟨?_, rfl⟩
  unfold wkd
  simp

theorem c_X12_worked4 {E : zE} {σ : zT} {x y : Int32}  : CalM E 1 yX12_worked cX12_worked 3 (some .int) [.int (nI 4), .int x, .int y] σ (fun r σ' => r = some (.int (wkd 4 x y)) ∧ σ' = σ) := by
  refine cal_of_go (own := RX12) rfl (by decide +kernel) (Nat.le_of_ble_eq_true rfl) ?_
  refine go_iload_n (i := 0) (pc := 0) dX12_worked_0 rfl rfl ?_
  refine go_tableIn 86 (off := 85) (pc := 1) dX12_worked_1 (by decide) (by decide) (by decide) (by decide) ?_
  refine go_iload_n (i := 1) (pc := 86) dX12_worked_86 rfl rfl ?_
  refine go_iload_n (i := 2) (pc := 87) dX12_worked_87 rfl rfl ?_
  refine go_isub (pc := 88) dX12_worked_88 ?_
  refine go_ireturn (pc := 89) dX12_worked_89 rfl ?_
  refine ⟨?_, rfl⟩
  unfold wkd
  simp

theorem c_X12_worked5 {E : zE} {σ : zT} {x y : Int32}  : CalM E 1 yX12_worked cX12_worked 3 (some .int) [.int (nI 5), .int x, .int y] σ (fun r σ' => r = some (.int (wkd 5 x y)) ∧ σ' = σ) := by
  refine cal_of_go (own := RX12) rfl (by decide +kernel) (Nat.le_of_ble_eq_true rfl) ?_
  refine go_iload_n (i := 0) (pc := 0) dX12_worked_0 rfl rfl ?_
  refine go_tableIn 90 (off := 89) (pc := 1) dX12_worked_1 (by decide) (by decide) (by decide) (by decide) ?_
  refine go_iload_n (i := 1) (pc := 90) dX12_worked_90 rfl rfl ?_
  refine go_iload_n (i := 2) (pc := 91) dX12_worked_91 rfl rfl ?_
  refine go_imul (pc := 92) dX12_worked_92 ?_
  refine go_ireturn (pc := 93) dX12_worked_93 rfl ?_
  refine ⟨?_, rfl⟩
  unfold wkd
  simp

theorem c_X12_worked6 {E : zE} {σ : zT} {x y : Int32}  : CalM E 1 yX12_worked cX12_worked 3 (some .int) [.int (nI 6), .int x, .int y] σ (fun r σ' => r = some (.int (wkd 6 x y)) ∧ σ' = σ) := by
  refine cal_of_go (own := RX12) rfl (by decide +kernel) (Nat.le_of_ble_eq_true rfl) ?_
  refine go_iload_n (i := 0) (pc := 0) dX12_worked_0 rfl rfl ?_
  refine go_tableOut 94 (pc := 1) dX12_worked_1 (by decide) (by decide) ?_
  refine go_iload_n (i := 2) (pc := 94) dX12_worked_94 rfl rfl ?_
  refine go_if_ne 102 (pc := 95) dX12_worked_95 (by decide) (fun h95 => ?_) (fun h95 => ?_)
  · refine go_iload_n (i := 1) (pc := 102) dX12_worked_102 rfl rfl ?_
    refine go_iload_n (i := 2) (pc := 103) dX12_worked_103 rfl rfl ?_
    refine go_idiv (pc := 104) dX12_worked_104 (by assumption) ?_
    refine go_ireturn (pc := 105) dX12_worked_105 rfl ?_
    refine ⟨?_, rfl⟩
    unfold wkd
    rw [if_neg (by decide), if_neg (by decide), if_neg (by decide), if_neg (by decide), if_neg (by decide), if_neg (by decide)]
    first | rw [if_pos (by first | assumption | exact Decidable.not_not.mp (by assumption))] | rw [if_neg (by assumption)]
  · refine go_iconst (nI 0) (pc := 98) dX12_worked_98 (by decide) ?_
    refine go_goto 105 (pc := 99) dX12_worked_99 (by decide) ?_
    refine go_ireturn (pc := 105) dX12_worked_105 rfl ?_
    refine ⟨?_, rfl⟩
    unfold wkd
    rw [if_neg (by decide), if_neg (by decide), if_neg (by decide), if_neg (by decide), if_neg (by decide), if_neg (by decide)]
    first | rw [if_pos (by first | assumption | exact Decidable.not_not.mp (by assumption))] | rw [if_neg (by assumption)]

theorem c_X12_worked {E : zE} {σ : zT} {a : Nat} {x y : Int32} (h2 : a < 7) : CalM E 1 yX12_worked cX12_worked 3 (some .int) [.int (nI a), .int x, .int y] σ (fun r σ' => r = some (.int (wkd a x y)) ∧ σ' = σ) := by
  have : a = 0 ∨ a = 1 ∨ a = 2 ∨ a = 3 ∨ a = 4 ∨ a = 5 ∨ a = 6 := by omega
  rcases this with rfl | rfl | rfl | rfl | rfl | rfl | rfl
  · exact c_X12_worked0
  · exact c_X12_worked1
  · exact c_X12_worked2
  · exact c_X12_worked3
  · exact c_X12_worked4
  · exact c_X12_worked5
  · exact c_X12_worked6
theorem evT_num {th : Nat → Int32} {t : Nat} {s : List Int32} (h : t < 1000) : evT th t s = some (nI t :: s) := if_pos h
theorem evT_thg {th : Nat → Int32} {t : Nat} {s : List Int32} (h : ¬ t < 1000) (h2 : t < 2000) : evT th t s = some (th (t - 1000) :: s) := by unfold evT; rw [if_neg h, if_pos h2]
theorem evT_neg {th : Nat → Int32} {s s2 : List Int32} (h : evT th 3000 s = some s2) : ∃ x s3, s = x :: s3 ∧ s2 = -x :: s3 := by
  unfold evT at h
  rw [if_neg (by decide), if_neg (by decide), if_pos rfl] at h
  match s, h with
  | x :: s3, h => exact ⟨x, s3, rfl, (Option.some.inj h).symm⟩
theorem evT_act {th : Nat → Int32} {t : Nat} {s s2 : List Int32} (h1 : ¬ t < 2000) (h2 : t ≠ 3000) (h : evT th t s = some s2) : ∃ y x s3, s = y :: x :: s3 ∧ s2 = wkd (t - 2000) x y :: s3 := by
  unfold evT at h
  rw [if_neg (by omega), if_neg h1, if_neg h2] at h
  match s, h with
  | y :: x :: s3, h => exact ⟨y, x, s3, rfl, (Option.some.inj h).symm⟩
theorem evL_us (th : Nat → Int32) : evL th usual [] = some [th 0 * nI 5 + th 1 * nI 10] := rfl

theorem c_X12_ruled {E : zE} {σ : zT} {xs : List Nat} {th : Nat → Int32} {v : Int32} (hX : CodeIs σ xs) (hth : ∀ j, j < 5 → σ.2.1 33 14 j = th j) (hv : evL th xs [] = some [v]) : CalM E 2 yX12_ruled cX12_ruled 4 (some .int) [.ref (zA E 33 0)] σ (fun r σ' => r = some (.int v) ∧ Fr9 [] [13] σ σ') := by
  refine cal_of_go (own := RX12) rfl (by decide +kernel) (Nat.le_of_ble_eq_true rfl) ?_
  obtain ⟨⟨hd1, hl40, htok⟩, ys, hy, hcl, hcd⟩ := hX
  have hyl : ys.length ≤ 40 := by
    rcases hy with e | ⟨e, -⟩
    · rw [e]; exact hl40
    · rw [e]; decide
  have hytok : ∀ t ∈ ys, tokOK t := by
    rcases hy with e | ⟨e, -⟩
    · rw [e]; exact htok
    · rw [e]; exact fun _ h => nomatch h
  have loop : ys ≠ [] → ∀ (rest : List Nat) (i : Nat) (s : List Int32) (τ : zT), i + rest.length = ys.length → (∀ j t, rest[j]? = some t → ys[i + j]? = some t) → s.length ≤ i → evL th rest s = some [v] → stk (τ.2.1 33 13) s → Fr9 [] [13] σ τ → GoM E 2 RX12 cX12_ruled 4 (some .int) (fun r σ' => r = some (.int v) ∧ Fr9 [] [13] σ σ') τ 4 [(0, .ref (zA E 33 0)), (1, .int (nI s.length)), (2, .int (nI i))] [] := by
    intro hne rest
    have hyp : 0 < ys.length := List.length_pos_iff.mpr hne
    induction rest with
    | nil =>
      intro i s τ hil hys hsl hev2 hst hF
      cases hev2
      simp only [List.length_nil, Nat.add_zero] at hil
      refine go_iload_n (i := 2) (pc := 4) dX12_ruled_4 rfl rfl ?_
      refine go_aload_n (i := 0) (pc := 5) dX12_ruled_5 rfl rfl ?_
      refine go_geti fl_X12_227 (pc := 6) dX12_ruled_6 (by rfl) ?_
      rw [hF.2.1 _ (by decide), hcl]
      refine go_icmp_ge 125 (pc := 9) dX12_ruled_9 (by decide) (fun h9 => ?_) (fun h9 => ?_)
      · first | rw [nI_leI (by omega) (by omega)] at h9 | rw [zi_leN (by omega)] at h9 | rw [zi_Nle (by omega)] at h9 | rw [zi_le] at h9
        refine go_aload_n (i := 0) (pc := 125) dX12_ruled_125 rfl rfl ?_
        refine go_geti fl_X12_227 (pc := 126) dX12_ruled_126 (by rfl) ?_
        rw [hF.2.1 _ (by decide), hcl]
        refine go_if_ne 153 (pc := 129) dX12_ruled_129 (by decide) (fun h129 => ?_) (fun h129 => ?_)
        · first | rw [zb_0d] at h129 | rw [zn_eq0 (by omega)] at h129 | rw [zi_eq0] at h129
          refine go_aload_n (i := 0) (pc := 153) dX12_ruled_153 rfl rfl ?_
          refine go_getr2 fl_X12_54 (pc := 154) dX12_ruled_154 (by rfl) (by rfl) (by rfl) ?_
          refine go_iconst (nI 0) (pc := 157) dX12_ruled_157 (by decide) ?_
          refine go_iaload _ (pc := 158) dX12_ruled_158 (by first | rfl | (apply zM_ar <;> assumption)) (by first | rfl | (apply zM_jn <;> assumption)) rfl (by first | assumption | omega) ?_
          rw [show τ.2.1 33 13 0 = v from hst.1]
          refine go_ireturn (pc := 159) dX12_ruled_159 rfl ?_
          exact ⟨rfl, hF⟩
        · first | rw [zb_0d] at h129 | rw [zn_eq0 (by omega)] at h129 | rw [zi_eq0] at h129
          omega
      · first | rw [nI_leI (by omega) (by omega)] at h9 | rw [zi_leN (by omega)] at h9 | rw [zi_Nle (by omega)] at h9 | rw [zi_le] at h9
        omega
    | cons t rest ih =>
      intro i s τ hil hys hsl hev2 hst hF
      have hti : ys[i]? = some t := hys 0 t rfl
      have htk := hytok t (List.mem_of_getElem? hti)
      have ht3 : t ≤ 3000 := by unfold tokOK at htk; omega
      have hil2 : i < ys.length := by simp only [List.length_cons] at hil; omega
      unfold evL at hev2
      cases he : evT th t s with
      | none => rw [he] at hev2; cases hev2
      | some s2 =>
        rw [he] at hev2
        dsimp only at hev2
        refine go_iload_n (i := 2) (pc := 4) dX12_ruled_4 rfl rfl ?_
        refine go_aload_n (i := 0) (pc := 5) dX12_ruled_5 rfl rfl ?_
        refine go_geti fl_X12_227 (pc := 6) dX12_ruled_6 (by rfl) ?_
        rw [hF.2.1 _ (by decide), hcl]
        refine go_icmp_ge 125 (pc := 9) dX12_ruled_9 (by decide) (fun h9 => ?_) (fun h9 => ?_)
        · first | rw [nI_leI (by omega) (by omega)] at h9 | rw [zi_leN (by omega)] at h9 | rw [zi_Nle (by omega)] at h9 | rw [zi_le] at h9
          omega
        · first | rw [nI_leI (by omega) (by omega)] at h9 | rw [zi_leN (by omega)] at h9 | rw [zi_Nle (by omega)] at h9 | rw [zi_le] at h9
          refine go_aload_n (i := 0) (pc := 12) dX12_ruled_12 rfl rfl ?_
          refine go_getr2 fl_X12_48 (pc := 13) dX12_ruled_13 (by rfl) (by rfl) (by rfl) ?_
          refine go_iload_n (i := 2) (pc := 16) dX12_ruled_16 rfl rfl ?_
          refine go_iaload _ (pc := 17) dX12_ruled_17 (by first | rfl | (apply zM_ar <;> assumption)) (by first | rfl | (apply zM_jn <;> assumption)) rfl (by first | assumption | omega) ?_
          rw [hF.2.2.1 _ (by decide), hcd i t hti]
          refine go_istore_n (i := 3) (pc := 18) dX12_ruled_18 rfl (by decide) ?_
          refine go_iload_n (i := 3) (pc := 19) dX12_ruled_19 rfl rfl ?_
          refine go_sipush (nI 3000) (pc := 20) dX12_ruled_20 (by decide) ?_
          refine go_icmp_ne 46 (pc := 23) dX12_ruled_23 (by decide) (fun h23 => ?_) (fun h23 => ?_)
          · first | rw [nI_eq (by omega) (by omega)] at h23 | rw [zi_eqN (by omega)] at h23 | rw [zi_Neq (by omega)] at h23 | rw [zi_eq] at h23
            refine go_iload_n (i := 3) (pc := 46) dX12_ruled_46 rfl rfl ?_
            refine go_sipush (nI 2000) (pc := 47) dX12_ruled_47 (by decide) ?_
            refine go_icmp_lt 89 (pc := 50) dX12_ruled_50 (by decide) (fun h50 => ?_) (fun h50 => ?_)
            · first | rw [nI_ltI (by omega) (by omega)] at h50 | rw [zi_ltN (by omega)] at h50 | rw [zi_Nlt (by omega)] at h50 | rw [zi_lt] at h50
              refine go_aload_n (i := 0) (pc := 89) dX12_ruled_89 rfl rfl ?_
              refine go_getr2 fl_X12_54 (pc := 90) dX12_ruled_90 (by rfl) (by rfl) (by rfl) ?_
              refine go_iload_n (i := 1) (pc := 93) dX12_ruled_93 rfl rfl ?_
              refine go_iload_n (i := 3) (pc := 94) dX12_ruled_94 rfl rfl ?_
              refine go_sipush (nI 1000) (pc := 95) dX12_ruled_95 (by decide) ?_
              refine go_icmp_lt 114 (pc := 98) dX12_ruled_98 (by decide) (fun h98 => ?_) (fun h98 => ?_)
              · first | rw [nI_ltI (by omega) (by omega)] at h98 | rw [zi_ltN (by omega)] at h98 | rw [zi_Nlt (by omega)] at h98 | rw [zi_lt] at h98
                rw [evT_num h98] at he
                cases he
                have knum := trivial
                refine go_iload_n (i := 3) (pc := 114) dX12_ruled_114 rfl rfl ?_
                refine go_iastore s.length (pc := 115) dX12_ruled_115 rfl rfl rfl (by omega) ?_
                refine go_iincN (pc := 116) dX12_ruled_116 rfl (by decide) ?_
                refine go_iincN (pc := 119) dX12_ruled_119 rfl (by decide) ?_
                refine go_goto 4 (pc := 122) dX12_ruled_122 (by decide) ?_
                first
                  | (have _ := kneg
                     refine go_drop [0, 1, 2] rfl ?_
                     refine ih (i + 1) (-x :: s3) _ (by simp only [List.length_cons] at hil; omega) (fun j t2 hj => by rw [show i + 1 + j = i + (j + 1) by omega]; exact hys (j + 1) t2 (by simpa using hj)) (by simp only [List.length_cons] at hsl ⊢; omega) hev2 ?_ (hF.uA (by simp))
                     rw [uA_s]
                     exact stk_push hst.2)
                  | (have _ := kact
                     generalize wkd (t - 2000) x y = w9 at hev2 ⊢
                     refine go_drop [0, 1, 2] rfl ?_
                     refine ih (i + 1) (w9 :: s3) _ (by simp only [List.length_cons] at hil; omega) (fun j t2 hj => by rw [show i + 1 + j = i + (j + 1) by omega]; exact hys (j + 1) t2 (by simpa using hj)) (by simp only [List.length_cons] at hsl ⊢; omega) hev2 ?_ (hF.uA (by simp))
                     rw [uA_s]
                     exact stk_push hst.2.2)
                  | (have _ := kthg
                     refine go_drop [0, 1, 2] rfl ?_
                     refine ih (i + 1) (th (t - 1000) :: s) _ (by simp only [List.length_cons] at hil; omega) (fun j t2 hj => by rw [show i + 1 + j = i + (j + 1) by omega]; exact hys (j + 1) t2 (by simpa using hj)) (by simp only [List.length_cons] at hsl ⊢; omega) hev2 ?_ (hF.uA (by simp))
                     rw [uA_s]
                     exact stk_push hst)
                  | (have _ := knum
                     refine go_drop [0, 1, 2] rfl ?_
                     refine ih (i + 1) (nI t :: s) _ (by simp only [List.length_cons] at hil; omega) (fun j t2 hj => by rw [show i + 1 + j = i + (j + 1) by omega]; exact hys (j + 1) t2 (by simpa using hj)) (by simp only [List.length_cons] at hsl ⊢; omega) hev2 ?_ (hF.uA (by simp))
                     rw [uA_s]
                     exact stk_push hst)
              · first | rw [nI_ltI (by omega) (by omega)] at h98 | rw [zi_ltN (by omega)] at h98 | rw [zi_Nlt (by omega)] at h98 | rw [zi_lt] at h98
                rw [evT_thg h98 h50] at he
                cases he
                have kthg := trivial
                refine go_aload_n (i := 0) (pc := 101) dX12_ruled_101 rfl rfl ?_
                refine go_getr2 fl_X12_57 (pc := 102) dX12_ruled_102 (by rfl) (by rfl) (by rfl) ?_
                refine go_iload_n (i := 3) (pc := 105) dX12_ruled_105 rfl rfl ?_
                refine go_sipush (nI 1000) (pc := 106) dX12_ruled_106 (by decide) ?_
                refine go_isubN (pc := 109) dX12_ruled_109 (by omega) ?_
                refine go_iaload (t - 1000) (pc := 110) dX12_ruled_110 rfl rfl rfl (by unfold tokOK at htk; omega) ?_
                rw [hF.2.2.1 _ (by decide), hth _ (by unfold tokOK at htk; omega)]
                refine go_goto 115 (pc := 111) dX12_ruled_111 (by decide) ?_
                refine go_iastore s.length (pc := 115) dX12_ruled_115 rfl rfl rfl (by omega) ?_
                refine go_iincN (pc := 116) dX12_ruled_116 rfl (by decide) ?_
                refine go_iincN (pc := 119) dX12_ruled_119 rfl (by decide) ?_
                refine go_goto 4 (pc := 122) dX12_ruled_122 (by decide) ?_
                first
                  | (have _ := kneg
                     refine go_drop [0, 1, 2] rfl ?_
                     refine ih (i + 1) (-x :: s3) _ (by simp only [List.length_cons] at hil; omega) (fun j t2 hj => by rw [show i + 1 + j = i + (j + 1) by omega]; exact hys (j + 1) t2 (by simpa using hj)) (by simp only [List.length_cons] at hsl ⊢; omega) hev2 ?_ (hF.uA (by simp))
                     rw [uA_s]
                     exact stk_push hst.2)
                  | (have _ := kact
                     generalize wkd (t - 2000) x y = w9 at hev2 ⊢
                     refine go_drop [0, 1, 2] rfl ?_
                     refine ih (i + 1) (w9 :: s3) _ (by simp only [List.length_cons] at hil; omega) (fun j t2 hj => by rw [show i + 1 + j = i + (j + 1) by omega]; exact hys (j + 1) t2 (by simpa using hj)) (by simp only [List.length_cons] at hsl ⊢; omega) hev2 ?_ (hF.uA (by simp))
                     rw [uA_s]
                     exact stk_push hst.2.2)
                  | (have _ := kthg
                     refine go_drop [0, 1, 2] rfl ?_
                     refine ih (i + 1) (th (t - 1000) :: s) _ (by simp only [List.length_cons] at hil; omega) (fun j t2 hj => by rw [show i + 1 + j = i + (j + 1) by omega]; exact hys (j + 1) t2 (by simpa using hj)) (by simp only [List.length_cons] at hsl ⊢; omega) hev2 ?_ (hF.uA (by simp))
                     rw [uA_s]
                     exact stk_push hst)
                  | (have _ := knum
                     refine go_drop [0, 1, 2] rfl ?_
                     refine ih (i + 1) (nI t :: s) _ (by simp only [List.length_cons] at hil; omega) (fun j t2 hj => by rw [show i + 1 + j = i + (j + 1) by omega]; exact hys (j + 1) t2 (by simpa using hj)) (by simp only [List.length_cons] at hsl ⊢; omega) hev2 ?_ (hF.uA (by simp))
                     rw [uA_s]
                     exact stk_push hst)
            · first | rw [nI_ltI (by omega) (by omega)] at h50 | rw [zi_ltN (by omega)] at h50 | rw [zi_Nlt (by omega)] at h50 | rw [zi_lt] at h50
              obtain ⟨y, x, s3, rfl, rfl⟩ := evT_act h50 h23 he
              have kact := trivial
              refine go_iinc (nI (x :: s3).length) (pc := 53) dX12_ruled_53 rfl (pk_m1 _) (by decide) ?_
              refine go_aload_n (i := 0) (pc := 56) dX12_ruled_56 rfl rfl ?_
              refine go_getr2 fl_X12_54 (pc := 57) dX12_ruled_57 (by rfl) (by rfl) (by rfl) ?_
              refine go_iload_n (i := 1) (pc := 60) dX12_ruled_60 rfl rfl ?_
              refine go_iconst (nI 1) (pc := 61) dX12_ruled_61 (by decide) ?_
              refine go_isubN (pc := 62) dX12_ruled_62 (by simp) ?_
              rw [show (x :: s3).length - 1 = s3.length from rfl]
              refine go_iload_n (i := 3) (pc := 63) dX12_ruled_63 rfl rfl ?_
              refine go_sipush (nI 2000) (pc := 64) dX12_ruled_64 (by decide) ?_
              refine go_isubN (pc := 67) dX12_ruled_67 (by omega) ?_
              refine go_aload_n (i := 0) (pc := 68) dX12_ruled_68 rfl rfl ?_
              refine go_getr2 fl_X12_54 (pc := 69) dX12_ruled_69 (by rfl) (by rfl) (by rfl) ?_
              refine go_iload_n (i := 1) (pc := 72) dX12_ruled_72 rfl rfl ?_
              refine go_iconst (nI 1) (pc := 73) dX12_ruled_73 (by decide) ?_
              refine go_isubN (pc := 74) dX12_ruled_74 (by simp) ?_
              rw [show (x :: s3).length - 1 = s3.length from rfl]
              refine go_iaload s3.length (pc := 75) dX12_ruled_75 rfl rfl rfl (by simp only [List.length_cons] at hsl ⊢; omega) ?_
              rw [hst.2.1]
              refine go_aload_n (i := 0) (pc := 76) dX12_ruled_76 rfl rfl ?_
              refine go_getr2 fl_X12_54 (pc := 77) dX12_ruled_77 (by rfl) (by rfl) (by rfl) ?_
              refine go_iload_n (i := 1) (pc := 80) dX12_ruled_80 rfl rfl ?_
              refine go_iaload (x :: s3).length (pc := 81) dX12_ruled_81 rfl rfl rfl (by simp only [List.length_cons] at hsl ⊢; omega) ?_
              rw [hst.1]
              refine go_callS ml_X12_237 mt_X12_worked (pc := 82) dX12_ruled_82 (c_X12_worked (by unfold tokOK at htk; omega)) (by decide) (by decide) rfl rfl (Nat.le_of_ble_eq_true rfl) (fun r σ' hp => ?_)
              obtain ⟨rfl, hσ⟩ := hp
              rw [hσ]
              clear hσ σ'
              dsimp only [zRet]
              refine go_iastore s3.length (pc := 85) dX12_ruled_85 rfl rfl rfl (by simp only [List.length_cons] at hsl; omega) ?_
              refine go_goto 119 (pc := 86) dX12_ruled_86 (by decide) ?_
              refine go_iincN (pc := 119) dX12_ruled_119 rfl (by decide) ?_
              refine go_goto 4 (pc := 122) dX12_ruled_122 (by decide) ?_
              first
                | (have _ := kneg
                   refine go_drop [0, 1, 2] rfl ?_
                   refine ih (i + 1) (-x :: s3) _ (by simp only [List.length_cons] at hil; omega) (fun j t2 hj => by rw [show i + 1 + j = i + (j + 1) by omega]; exact hys (j + 1) t2 (by simpa using hj)) (by simp only [List.length_cons] at hsl ⊢; omega) hev2 ?_ (hF.uA (by simp))
                   rw [uA_s]
                   exact stk_push hst.2)
                | (have _ := kact
                   generalize wkd (t - 2000) x y = w9 at hev2 ⊢
                   refine go_drop [0, 1, 2] rfl ?_
                   refine ih (i + 1) (w9 :: s3) _ (by simp only [List.length_cons] at hil; omega) (fun j t2 hj => by rw [show i + 1 + j = i + (j + 1) by omega]; exact hys (j + 1) t2 (by simpa using hj)) (by simp only [List.length_cons] at hsl ⊢; omega) hev2 ?_ (hF.uA (by simp))
                   rw [uA_s]
                   exact stk_push hst.2.2)
                | (have _ := kthg
                   refine go_drop [0, 1, 2] rfl ?_
                   refine ih (i + 1) (th (t - 1000) :: s) _ (by simp only [List.length_cons] at hil; omega) (fun j t2 hj => by rw [show i + 1 + j = i + (j + 1) by omega]; exact hys (j + 1) t2 (by simpa using hj)) (by simp only [List.length_cons] at hsl ⊢; omega) hev2 ?_ (hF.uA (by simp))
                   rw [uA_s]
                   exact stk_push hst)
                | (have _ := knum
                   refine go_drop [0, 1, 2] rfl ?_
                   refine ih (i + 1) (nI t :: s) _ (by simp only [List.length_cons] at hil; omega) (fun j t2 hj => by rw [show i + 1 + j = i + (j + 1) by omega]; exact hys (j + 1) t2 (by simpa using hj)) (by simp only [List.length_cons] at hsl ⊢; omega) hev2 ?_ (hF.uA (by simp))
                   rw [uA_s]
                   exact stk_push hst)
          · first | rw [nI_eq (by omega) (by omega)] at h23 | rw [zi_eqN (by omega)] at h23 | rw [zi_Neq (by omega)] at h23 | rw [zi_eq] at h23
            subst h23
            obtain ⟨x, s3, rfl, rfl⟩ := evT_neg he
            have kneg := trivial
            refine go_aload_n (i := 0) (pc := 26) dX12_ruled_26 rfl rfl ?_
            refine go_getr2 fl_X12_54 (pc := 27) dX12_ruled_27 (by rfl) (by rfl) (by rfl) ?_
            refine go_iload_n (i := 1) (pc := 30) dX12_ruled_30 rfl rfl ?_
            refine go_iconst (nI 1) (pc := 31) dX12_ruled_31 (by decide) ?_
            refine go_isubN (pc := 32) dX12_ruled_32 (by simp) ?_
            rw [show (x :: s3).length - 1 = s3.length from rfl]
            refine go_aload_n (i := 0) (pc := 33) dX12_ruled_33 rfl rfl ?_
            refine go_getr2 fl_X12_54 (pc := 34) dX12_ruled_34 (by rfl) (by rfl) (by rfl) ?_
            refine go_iload_n (i := 1) (pc := 37) dX12_ruled_37 rfl rfl ?_
            refine go_iconst (nI 1) (pc := 38) dX12_ruled_38 (by decide) ?_
            refine go_isubN (pc := 39) dX12_ruled_39 (by simp) ?_
            rw [show (x :: s3).length - 1 = s3.length from rfl]
            refine go_iaload s3.length (pc := 40) dX12_ruled_40 rfl rfl rfl (by simp only [List.length_cons] at hsl ⊢; omega) ?_
            rw [hst.1]
            refine go_ineg (pc := 41) dX12_ruled_41 ?_
            refine go_iastore s3.length (pc := 42) dX12_ruled_42 rfl rfl rfl (by simp only [List.length_cons] at hsl; omega) ?_
            refine go_goto 119 (pc := 43) dX12_ruled_43 (by decide) ?_
            refine go_iincN (pc := 119) dX12_ruled_119 rfl (by decide) ?_
            refine go_goto 4 (pc := 122) dX12_ruled_122 (by decide) ?_
            first
              | (have _ := kneg
                 refine go_drop [0, 1, 2] rfl ?_
                 refine ih (i + 1) (-x :: s3) _ (by simp only [List.length_cons] at hil; omega) (fun j t2 hj => by rw [show i + 1 + j = i + (j + 1) by omega]; exact hys (j + 1) t2 (by simpa using hj)) (by simp only [List.length_cons] at hsl ⊢; omega) hev2 ?_ (hF.uA (by simp))
                 rw [uA_s]
                 exact stk_push hst.2)
              | (have _ := kact
                 generalize wkd (t - 2000) x y = w9 at hev2 ⊢
                 refine go_drop [0, 1, 2] rfl ?_
                 refine ih (i + 1) (w9 :: s3) _ (by simp only [List.length_cons] at hil; omega) (fun j t2 hj => by rw [show i + 1 + j = i + (j + 1) by omega]; exact hys (j + 1) t2 (by simpa using hj)) (by simp only [List.length_cons] at hsl ⊢; omega) hev2 ?_ (hF.uA (by simp))
                 rw [uA_s]
                 exact stk_push hst.2.2)
              | (have _ := kthg
                 refine go_drop [0, 1, 2] rfl ?_
                 refine ih (i + 1) (th (t - 1000) :: s) _ (by simp only [List.length_cons] at hil; omega) (fun j t2 hj => by rw [show i + 1 + j = i + (j + 1) by omega]; exact hys (j + 1) t2 (by simpa using hj)) (by simp only [List.length_cons] at hsl ⊢; omega) hev2 ?_ (hF.uA (by simp))
                 rw [uA_s]
                 exact stk_push hst)
              | (have _ := knum
                 refine go_drop [0, 1, 2] rfl ?_
                 refine ih (i + 1) (nI t :: s) _ (by simp only [List.length_cons] at hil; omega) (fun j t2 hj => by rw [show i + 1 + j = i + (j + 1) by omega]; exact hys (j + 1) t2 (by simpa using hj)) (by simp only [List.length_cons] at hsl ⊢; omega) hev2 ?_ (hF.uA (by simp))
                 rw [uA_s]
                 exact stk_push hst)
  rcases hy with e | ⟨e, e2⟩
  · by_cases hne : ys = []
    · rw [← e, hne] at hv; cases hv
    · subst e
      refine go_iconst (nI 0) (pc := 0) dX12_ruled_0 (by decide) ?_
      refine go_istore_n (i := 1) (pc := 1) dX12_ruled_1 rfl (by decide) ?_
      refine go_iconst (nI 0) (pc := 2) dX12_ruled_2 (by decide) ?_
      refine go_istore_n (i := 2) (pc := 3) dX12_ruled_3 rfl (by decide) ?_
      exact loop hne ys 0 [] σ (by simp) (fun j t h => by simpa using h) (by simp) hv trivial Fr9.rf
  · subst e
    subst e2
    rw [evL_us] at hv
    cases hv
    refine go_iconst (nI 0) (pc := 0) dX12_ruled_0 (by decide) ?_
    refine go_istore_n (i := 1) (pc := 1) dX12_ruled_1 rfl (by decide) ?_
    refine go_iconst (nI 0) (pc := 2) dX12_ruled_2 (by decide) ?_
    refine go_istore_n (i := 2) (pc := 3) dX12_ruled_3 rfl (by decide) ?_
    refine go_iload_n (i := 2) (pc := 4) dX12_ruled_4 rfl rfl ?_
    refine go_aload_n (i := 0) (pc := 5) dX12_ruled_5 rfl rfl ?_
    refine go_geti fl_X12_227 (pc := 6) dX12_ruled_6 (by rfl) ?_
    rw [hcl]
    refine go_icmp_ge 125 (pc := 9) dX12_ruled_9 (by decide) (fun h9 => ?_) (fun h9 => ?_)
    · refine go_aload_n (i := 0) (pc := 125) dX12_ruled_125 rfl rfl ?_
      refine go_geti fl_X12_227 (pc := 126) dX12_ruled_126 (by rfl) ?_
      rw [hcl]
      refine go_if_ne 153 (pc := 129) dX12_ruled_129 (by decide) (fun h129 => ?_) (fun h129 => ?_)
      · exact absurd rfl h129
      · refine go_iconst (nI 5) (pc := 132) dX12_ruled_132 (by decide) ?_
        refine go_aload_n (i := 0) (pc := 133) dX12_ruled_133 rfl rfl ?_
        refine go_getr2 fl_X12_57 (pc := 134) dX12_ruled_134 (by rfl) (by rfl) (by rfl) ?_
        refine go_iconst (nI 0) (pc := 137) dX12_ruled_137 (by decide) ?_
        refine go_iaload _ (pc := 138) dX12_ruled_138 (by first | rfl | (apply zM_ar <;> assumption)) (by first | rfl | (apply zM_jn <;> assumption)) rfl (by first | assumption | omega) ?_
        rw [hth 0 (by decide)]
        refine go_imul (pc := 139) dX12_ruled_139 ?_
        refine go_bipush (nI 10) (pc := 140) dX12_ruled_140 (by decide) ?_
        refine go_aload_n (i := 0) (pc := 142) dX12_ruled_142 rfl rfl ?_
        refine go_getr2 fl_X12_57 (pc := 143) dX12_ruled_143 (by rfl) (by rfl) (by rfl) ?_
        refine go_iconst (nI 1) (pc := 146) dX12_ruled_146 (by decide) ?_
        refine go_iaload _ (pc := 147) dX12_ruled_147 (by first | rfl | (apply zM_ar <;> assumption)) (by first | rfl | (apply zM_jn <;> assumption)) rfl (by first | assumption | omega) ?_
        rw [hth 1 (by decide)]
        refine go_imul (pc := 148) dX12_ruled_148 ?_
        refine go_iadd (pc := 149) dX12_ruled_149 ?_
        refine go_goto 159 (pc := 150) dX12_ruled_150 (by decide) ?_
        refine go_ireturn (pc := 159) dX12_ruled_159 rfl ?_
        refine ⟨?_, Fr9.rf⟩
        rw [Int32.mul_comm (nI 5), Int32.mul_comm (nI 10)]
    · exact absurd (by decide) h9

theorem clp_mm (v : Int32) : (if (nI 0).toInt < (if (nI 999).toInt ≤ v.toInt then nI 999 else v).toInt then (if (nI 999).toInt ≤ v.toInt then nI 999 else v) else nI 0) = nI (clp v 999) := by
  have e9 : (nI 999).toInt = 999 := by decide
  have e0 : (nI 0).toInt = 0 := by decide
  rw [← clp_eq (by decide : 999 < 2 ^ 31), e9, e0]
  by_cases h : 999 ≤ v.toInt
  · rw [if_pos h, if_pos (by rw [e9]; omega), if_neg (by omega)]
    by_cases h2 : ((999 : Nat) : Int) < v.toInt
    · rw [if_pos h2]
    · rw [if_neg h2, zi_eq, e9]; omega
  · rw [if_neg h]
    by_cases h2 : v.toInt < 0
    · rw [if_pos h2, if_neg (by omega)]
    · rw [if_neg h2, if_neg (by omega : ¬ ((999 : Nat) : Int) < v.toInt)]
      by_cases h3 : 0 < v.toInt
      · rw [if_pos h3]
      · rw [if_neg h3, zi_eq, e0]; omega
theorem rsk_v {xs : List Nat} {h g l w o : Nat} (hd : dpL xs 0 = some 1) : ∃ v, evL (thg h g l w o) xs [] = some [v] ∧ rsk xs h g l w o = clp v 999 := by
  obtain ⟨sf, hev, hsf⟩ := evL_dp (th := thg h g l w o) (s := []) rfl hd
  match sf, hsf, hev with
  | [v], _, hev => exact ⟨v, hev, by unfold rsk; rw [hev]⟩

theorem c_X12_riskOf {E : zE} {σ : zT} {V : zV} {j : Nat} {ρ : Nat → Nat} {c m h : Nat} (hE : EnvR σ V) (hw : RwIs σ j ρ) (hok : RowOK (vN V) ρ) (hj : zM j = true) (hc : c < vC V) (hm : m < vN V) : CalM E 3 yX12_riskOf cX12_riskOf 7 (some .int) [.ref (zA E 33 0), .ref (zA E 33 j), .int (nI c), .int (nI m), .int (nI h)] σ (fun r σ' => r = some (.int (nI (rsk (vX V) h (ρ (12 + m)) (vL V c) (ρ 27 % 8) (menOth (vN V) ρ m)))) ∧ Fr9 [] [13, 14] σ σ') := by
  refine cal_of_go (own := RX12) rfl (by decide +kernel) (Nat.le_of_ble_eq_true rfl) ?_
  have hn : 1 ≤ vN V ∧ vN V ≤ 12 := ⟨hok.1, hok.2.1⟩
  have h3 := hE.2.2.2
  have hc8 := hE.2.1.1
  have hs : ∀ i, i ≤ 12 → sumN i (fun q => if q = m ∨ ρ (12 + q) = 0 then 0 else 1) ≤ 12 * 1 := fun i hi => Nat.le_trans (sumN_le (c := 1) (fun q _ => by split <;> omega)) (Nat.mul_le_mul_right 1 hi)
  have h27 := hok.2.2.2.2.2.2.1
  have hj14 : j ≠ 14 := by rcases zM_or hj with rfl | rfl <;> decide
  obtain ⟨v, hev, hrv⟩ := rsk_v (h := h) (g := ρ (12 + m)) (l := vL V c) (w := ρ 27 % 8) (o := menOth (vN V) ρ m) hE.1.1.1
  rw [hrv]
  have fin : GoM E 3 RX12 cX12_riskOf 7 (some .int) (fun r σ' => r = some (.int (nI (clp v 999))) ∧ Fr9 [] [13, 14] σ σ') σ 50 [(0, .ref (zA E 33 0)), (1, .ref (zA E 33 j)), (2, .int (nI c)), (3, .int (nI m)), (4, .int (nI h)), (5, .int (nI (sumN (vN V) (fun q => if q = m ∨ ρ (12 + q) = 0 then 0 else 1)))), (6, .int (nI (vN V)))] [] := by
    refine go_aload_n (i := 0) (pc := 50) dX12_riskOf_50 rfl rfl ?_
    refine go_getr2 fl_X12_57 (pc := 51) dX12_riskOf_51 (by rfl) (by rfl) (by rfl) ?_
    refine go_iconst (nI 0) (pc := 54) dX12_riskOf_54 (by decide) ?_
    refine go_iload (pc := 55) dX12_riskOf_55 rfl ?_
    refine go_iastore 0 (pc := 57) dX12_riskOf_57 rfl rfl rfl (by decide) ?_
    refine go_aload_n (i := 0) (pc := 58) dX12_riskOf_58 rfl rfl ?_
    refine go_getr2 fl_X12_57 (pc := 59) dX12_riskOf_59 (by rfl) (by rfl) (by rfl) ?_
    refine go_iconst (nI 1) (pc := 62) dX12_riskOf_62 (by decide) ?_
    refine go_aload_n (i := 1) (pc := 63) dX12_riskOf_63 rfl rfl ?_
    refine go_bipush (nI 12) (pc := 64) dX12_riskOf_64 (by decide) ?_
    refine go_iload_n (i := 3) (pc := 66) dX12_riskOf_66 rfl rfl ?_
    first | with_reducible refine go_iaddN (pc := 67) dX12_riskOf_67 ?_ | refine go_iadd (pc := 67) dX12_riskOf_67 ?_
    refine go_iaload (12 + m) (pc := 68) dX12_riskOf_68 (zM_ar hj) (zM_jn hj) rfl (by omega) ?_
    refine go_top (congrArg Value.int (show _ = nI (ρ (12 + m)) by simp [uA_2, hj14, hw _ (show 12 + m < 29 by omega)])) ?_
    refine go_iastore 1 (pc := 69) dX12_riskOf_69 rfl rfl rfl (by decide) ?_
    refine go_aload_n (i := 0) (pc := 70) dX12_riskOf_70 rfl rfl ?_
    refine go_getr2 fl_X12_57 (pc := 71) dX12_riskOf_71 (by rfl) (by rfl) (by rfl) ?_
    refine go_iconst (nI 2) (pc := 74) dX12_riskOf_74 (by decide) ?_
    refine go_aload_n (i := 0) (pc := 75) dX12_riskOf_75 rfl rfl ?_
    refine go_getr2 fl_X12_27 (pc := 76) dX12_riskOf_76 (by rfl) (by rfl) (by rfl) ?_
    refine go_iload_n (i := 2) (pc := 79) dX12_riskOf_79 rfl rfl ?_
    refine go_iaload c (pc := 80) dX12_riskOf_80 rfl rfl rfl (by omega) ?_
    refine go_top (congrArg Value.int (show _ = nI (vL V c) by simp [uA_2, (hE.2.1.2.2 c hc).2.1])) ?_
    refine go_iastore 2 (pc := 81) dX12_riskOf_81 rfl rfl rfl (by decide) ?_
    refine go_aload_n (i := 0) (pc := 82) dX12_riskOf_82 rfl rfl ?_
    refine go_getr2 fl_X12_57 (pc := 83) dX12_riskOf_83 (by rfl) (by rfl) (by rfl) ?_
    refine go_iconst (nI 3) (pc := 86) dX12_riskOf_86 (by decide) ?_
    refine go_aload_n (i := 1) (pc := 87) dX12_riskOf_87 rfl rfl ?_
    refine go_bipush (nI 27) (pc := 88) dX12_riskOf_88 (by decide) ?_
    refine go_iaload 27 (pc := 90) dX12_riskOf_90 (zM_ar hj) (zM_jn hj) rfl (by decide) ?_
    refine go_top (congrArg Value.int (show _ = nI (ρ 27) by simp [uA_2, hj14, hw 27 (by decide)])) ?_
    refine go_bipush (nI 8) (pc := 91) dX12_riskOf_91 (by decide) ?_
    refine go_irem (pc := 93) dX12_riskOf_93 (by decide) ?_
    rw [pk_rem (by omega) (by decide) (by decide)]
    refine go_iastore 3 (pc := 94) dX12_riskOf_94 rfl rfl rfl (by decide) ?_
    refine go_aload_n (i := 0) (pc := 95) dX12_riskOf_95 rfl rfl ?_
    refine go_getr2 fl_X12_57 (pc := 96) dX12_riskOf_96 (by rfl) (by rfl) (by rfl) ?_
    refine go_iconst (nI 4) (pc := 99) dX12_riskOf_99 (by decide) ?_
    refine go_iload (pc := 100) dX12_riskOf_100 rfl ?_
    refine go_iastore 4 (pc := 102) dX12_riskOf_102 rfl rfl rfl (by decide) ?_
    generalize hτ : uA _ 33 14 _ = τ
    have hFa : Fr9 [] [13, 14] σ τ := by rw [← hτ]; exact ((((Fr9.rf.uA (by simp)).uA (by simp)).uA (by simp)).uA (by simp)).uA (by simp)
    have hX2 : CodeIs τ (vX V) := hE.1.fr hFa (by decide) (by decide)
    have hth2 : ∀ j, j < 5 → τ.2.1 33 14 j = thg h (ρ (12 + m)) (vL V c) (ρ 27 % 8) (menOth (vN V) ρ m) j := by
      intro q hq
      rw [← hτ]
      have e : q = 0 ∨ q = 1 ∨ q = 2 ∨ q = 3 ∨ q = 4 := by omega
      rcases e with rfl | rfl | rfl | rfl | rfl <;> simp [uA_2, upd_at, thg, menOth]
    clear hτ
    refine go_iconst (nI 0) (pc := 103) dX12_riskOf_103 (by decide) ?_
    refine go_sipush (nI 999) (pc := 104) dX12_riskOf_104 (by decide) ?_
    refine go_aload_n (i := 0) (pc := 107) dX12_riskOf_107 rfl rfl ?_
    refine go_callV ml_X12_241 mt_X12_ruled (pc := 108) dX12_riskOf_108 (c_X12_ruled (xs := vX V) (th := thg h (ρ (12 + m)) (vL V c) (ρ 27 % 8) (menOth (vN V) ρ m)) (v := v) hX2 hth2 hev) (by rfl) rfl (by rfl) (by decide) (by decide) rfl rfl (Nat.le_of_ble_eq_true rfl) (fun r σ' hp => ?_)
    obtain ⟨rfl, hFp⟩ := hp
    dsimp only [zRet]
    have hFr : Fr9 [] [13, 14] σ σ' := hFa.tr (hFp.mono (by simp) (by simp))
    refine go_callS ml_X12_127 mt_J9_min_7cf53 (pc := 111) dX12_riskOf_111 (c_J9_min_7cf53) (by decide) (by decide) rfl rfl (Nat.le_of_ble_eq_true rfl) (fun r σ' hp => ?_)
    obtain ⟨rfl, hσ⟩ := hp
    rw [hσ]
    clear hσ σ'
    dsimp only [zRet]
    refine go_callS ml_X12_244 mt_J9_max_7cf53 (pc := 114) dX12_riskOf_114 (c_J9_max_7cf53) (by decide) (by decide) rfl rfl (Nat.le_of_ble_eq_true rfl) (fun r σ' hp => ?_)
    obtain ⟨rfl, hσ⟩ := hp
    rw [hσ]
    clear hσ σ'
    dsimp only [zRet]
    refine go_ireturn (pc := 117) dX12_riskOf_117 rfl ?_
    rw [clp_mm]
    exact ⟨rfl, hFr⟩
  have loop : ∀ i : Nat, i ≤ vN V → GoM E 3 RX12 cX12_riskOf 7 (some .int) (fun r σ' => r = some (.int (nI (clp v 999))) ∧ Fr9 [] [13, 14] σ σ') σ 6 [(0, .ref (zA E 33 0)), (1, .ref (zA E 33 j)), (2, .int (nI c)), (3, .int (nI m)), (4, .int (nI h)), (5, .int (nI (sumN i (fun q => if q = m ∨ ρ (12 + q) = 0 then 0 else 1)))), (6, .int (nI i))] [] := by
    intro i
    induction hz : vN V - i using Nat.strongRecOn generalizing i with
    | ind z ih =>
      intro hi
      have h9 := hok.2.2.1 (12 + i)
      refine go_iload (pc := 6) dX12_riskOf_6 rfl ?_
      refine go_aload_n (i := 0) (pc := 8) dX12_riskOf_8 rfl rfl ?_
      refine go_geti fl_X12_13 (pc := 9) dX12_riskOf_9 (by rfl) ?_
      rw [h3]
      refine go_icmp_ge 50 (pc := 12) dX12_riskOf_12 (by decide) (fun h12 => ?_) (fun h12 => ?_)
      · first | rw [nI_leI (by omega) (by omega)] at h12 | rw [zi_leN (by omega)] at h12 | rw [zi_Nle (by omega)] at h12 | rw [zi_le] at h12
        have e : i = vN V := by omega
        subst e
        exact fin
      · first | rw [nI_leI (by omega) (by omega)] at h12 | rw [zi_leN (by omega)] at h12 | rw [zi_Nle (by omega)] at h12 | rw [zi_le] at h12
        refine go_iload (pc := 15) dX12_riskOf_15 rfl ?_
        refine go_iload (pc := 17) dX12_riskOf_17 rfl ?_
        refine go_iload_n (i := 3) (pc := 19) dX12_riskOf_19 rfl rfl ?_
        refine go_icmp_eq 37 (pc := 20) dX12_riskOf_20 (by decide) (fun h20 => ?_) (fun h20 => ?_)
        · first | rw [nI_eq (by omega) (by omega)] at h20 | rw [zi_eqN (by omega)] at h20 | rw [zi_Neq (by omega)] at h20 | rw [zi_eq] at h20
          refine go_iconst (nI 0) (pc := 37) dX12_riskOf_37 (by decide) ?_
          refine go_callS ml_X12_136 mt_X12_flag (pc := 38) dX12_riskOf_38 (c_flagN (by decide)) (by decide) (by decide) rfl rfl (Nat.le_of_ble_eq_true rfl) (fun r σ' hp => ?_)
          obtain ⟨rfl, hσ⟩ := hp
          rw [hσ]
          clear hσ σ'
          dsimp only [zRet]
          first | with_reducible refine go_iaddN (pc := 41) dX12_riskOf_41 ?_ | refine go_iadd (pc := 41) dX12_riskOf_41 ?_
          refine go_istore (pc := 42) dX12_riskOf_42 (by decide) ?_
          refine go_iincN (pc := 44) dX12_riskOf_44 rfl (by decide) ?_
          refine go_goto 6 (pc := 47) dX12_riskOf_47 (by decide) ?_
          first
            | (rw [show sumN i (fun q => if q = m ∨ ρ (12 + q) = 0 then 0 else 1) + 0 = sumN (i + 1) (fun q => if q = m ∨ ρ (12 + q) = 0 then 0 else 1) by rw [sumN, if_pos (by first | exact Or.inl h20 | (rw [zn_le0 (by omega)] at h30; omega))]]
               exact ih (vN V - (i + 1)) (by omega) (i + 1) rfl (by omega))
            | (rw [show sumN i (fun q => if q = m ∨ ρ (12 + q) = 0 then 0 else 1) + 1 = sumN (i + 1) (fun q => if q = m ∨ ρ (12 + q) = 0 then 0 else 1) by rw [sumN, if_neg (by rw [zn_le0 (by omega)] at h30; omega)]]
               exact ih (vN V - (i + 1)) (by omega) (i + 1) rfl (by omega))
        · first | rw [nI_eq (by omega) (by omega)] at h20 | rw [zi_eqN (by omega)] at h20 | rw [zi_Neq (by omega)] at h20 | rw [zi_eq] at h20
          refine go_aload_n (i := 1) (pc := 23) dX12_riskOf_23 rfl rfl ?_
          refine go_bipush (nI 12) (pc := 24) dX12_riskOf_24 (by decide) ?_
          refine go_iload (pc := 26) dX12_riskOf_26 rfl ?_
          first | with_reducible refine go_iaddN (pc := 28) dX12_riskOf_28 ?_ | refine go_iadd (pc := 28) dX12_riskOf_28 ?_
          refine go_iaload _ (pc := 29) dX12_riskOf_29 (by first | rfl | (apply zM_ar <;> assumption)) (by first | rfl | (apply zM_jn <;> assumption)) rfl (by first | assumption | omega) ?_
          rw [hw _ (by omega)]
          refine go_if_le 37 (pc := 30) dX12_riskOf_30 (by decide) (fun h30 => ?_) (fun h30 => ?_)
          · have h9 := h9 (by omega)
            refine go_iconst (nI 0) (pc := 37) dX12_riskOf_37 (by decide) ?_
            refine go_callS ml_X12_136 mt_X12_flag (pc := 38) dX12_riskOf_38 (c_flagN (by decide)) (by decide) (by decide) rfl rfl (Nat.le_of_ble_eq_true rfl) (fun r σ' hp => ?_)
            obtain ⟨rfl, hσ⟩ := hp
            rw [hσ]
            clear hσ σ'
            dsimp only [zRet]
            first | with_reducible refine go_iaddN (pc := 41) dX12_riskOf_41 ?_ | refine go_iadd (pc := 41) dX12_riskOf_41 ?_
            refine go_istore (pc := 42) dX12_riskOf_42 (by decide) ?_
            refine go_iincN (pc := 44) dX12_riskOf_44 rfl (by decide) ?_
            refine go_goto 6 (pc := 47) dX12_riskOf_47 (by decide) ?_
            first
              | (rw [show sumN i (fun q => if q = m ∨ ρ (12 + q) = 0 then 0 else 1) + 0 = sumN (i + 1) (fun q => if q = m ∨ ρ (12 + q) = 0 then 0 else 1) by rw [sumN, if_pos (by first | exact Or.inl h20 | (rw [zn_le0 (by omega)] at h30; omega))]]
                 exact ih (vN V - (i + 1)) (by omega) (i + 1) rfl (by omega))
              | (rw [show sumN i (fun q => if q = m ∨ ρ (12 + q) = 0 then 0 else 1) + 1 = sumN (i + 1) (fun q => if q = m ∨ ρ (12 + q) = 0 then 0 else 1) by rw [sumN, if_neg (by rw [zn_le0 (by omega)] at h30; omega)]]
                 exact ih (vN V - (i + 1)) (by omega) (i + 1) rfl (by omega))
          · have h9 := h9 (by omega)
            refine go_iconst (nI 1) (pc := 33) dX12_riskOf_33 (by decide) ?_
            refine go_goto 38 (pc := 34) dX12_riskOf_34 (by decide) ?_
            refine go_callS ml_X12_136 mt_X12_flag (pc := 38) dX12_riskOf_38 (c_flagN (by decide)) (by decide) (by decide) rfl rfl (Nat.le_of_ble_eq_true rfl) (fun r σ' hp => ?_)
            obtain ⟨rfl, hσ⟩ := hp
            rw [hσ]
            clear hσ σ'
            dsimp only [zRet]
            first | with_reducible refine go_iaddN (pc := 41) dX12_riskOf_41 ?_ | refine go_iadd (pc := 41) dX12_riskOf_41 ?_
            refine go_istore (pc := 42) dX12_riskOf_42 (by decide) ?_
            refine go_iincN (pc := 44) dX12_riskOf_44 rfl (by decide) ?_
            refine go_goto 6 (pc := 47) dX12_riskOf_47 (by decide) ?_
            first
              | (rw [show sumN i (fun q => if q = m ∨ ρ (12 + q) = 0 then 0 else 1) + 0 = sumN (i + 1) (fun q => if q = m ∨ ρ (12 + q) = 0 then 0 else 1) by rw [sumN, if_pos (by first | exact Or.inl h20 | (rw [zn_le0 (by omega)] at h30; omega))]]
                 exact ih (vN V - (i + 1)) (by omega) (i + 1) rfl (by omega))
              | (rw [show sumN i (fun q => if q = m ∨ ρ (12 + q) = 0 then 0 else 1) + 1 = sumN (i + 1) (fun q => if q = m ∨ ρ (12 + q) = 0 then 0 else 1) by rw [sumN, if_neg (by rw [zn_le0 (by omega)] at h30; omega)]]
                 exact ih (vN V - (i + 1)) (by omega) (i + 1) rfl (by omega))
  refine go_iconst (nI 0) (pc := 0) dX12_riskOf_0 (by decide) ?_
  refine go_istore (pc := 1) dX12_riskOf_1 (by decide) ?_
  refine go_iconst (nI 0) (pc := 3) dX12_riskOf_3 (by decide) ?_
  refine go_istore (pc := 4) dX12_riskOf_4 (by decide) ?_
  exact loop 0 (by omega)

theorem c_X12_skyOf {E : zE} {σ : zT} {V : zV} {j : Nat} {ρ : Nat → Nat} (hE : EnvR σ V) (hw : RwIs σ j ρ) (hok : RowOK (vN V) ρ) (hj : zM j = true) : CalM E 0 yX12_skyOf cX12_skyOf 2 (some .int) [.ref (zA E 33 0), .ref (zA E 33 j)] σ (fun r σ' => r = some (.int (nI (vW V (ρ 27 % vS V)))) ∧ σ' = σ) := by
  refine cal_of_go (own := RX12) rfl (by decide +kernel) (Nat.le_of_ble_eq_true rfl) ?_
  have h27 := hok.2.2.2.2.2.2.1
  obtain ⟨hs1, hs2, hs3, hs4⟩ := hE.2.2.1
  have hsm : ρ 27 % vS V < vS V := Nat.mod_lt _ hs1
  refine go_aload_n (i := 0) (pc := 0) dX12_skyOf_0 rfl rfl ?_
  refine go_getr2 fl_X12_20 (pc := 1) dX12_skyOf_1 (by rfl) (by rfl) (by rfl) ?_
  refine go_aload_n (i := 1) (pc := 4) dX12_skyOf_4 rfl rfl ?_
  refine go_bipush (nI 27) (pc := 5) dX12_skyOf_5 (by decide) ?_
  refine go_iaload _ (pc := 7) dX12_skyOf_7 (by first | rfl | (apply zM_ar <;> assumption)) (by first | rfl | (apply zM_jn <;> assumption)) rfl (by first | assumption | omega) ?_
  rw [hw 27 (by decide)]
  refine go_aload_n (i := 0) (pc := 8) dX12_skyOf_8 rfl rfl ?_
  refine go_geti fl_X12_17 (pc := 9) dX12_skyOf_9 (by rfl) ?_
  rw [hs3]
  refine go_irem (pc := 12) dX12_skyOf_12 (by rw [zn_eq0 (by omega)]; omega) ?_
  rw [pk_rem (by omega) (by omega) (by omega)]
  refine go_iaload (ρ 27 % vS V) (pc := 13) dX12_skyOf_13 rfl rfl rfl (by omega) ?_
  rw [(hs4 _ hsm).1]
  refine go_ireturn (pc := 14) dX12_skyOf_14 rfl ?_
  exact ⟨rfl, rfl⟩

theorem dng_g {V : zV} {ρ : Nat → Nat} {c m : Nat} (h4 : vK V c ≠ 4) (hb : (ρ 24).testBit m ≠ decide (vK V c = 3)) : dng V ρ c m = none := by unfold dng; rw [if_neg h4, if_pos hb]
theorem dng_f {V : zV} {ρ : Nat → Nat} {c m : Nat} (h4 : vK V c = 2) (hb : (ρ 24).testBit m = false) (hs : vW V (ρ 27 % vS V) ≠ 2) : dng V ρ c m = none := by unfold dng; rw [if_neg (by omega), if_neg (by rw [hb, h4]; decide), if_pos ⟨h4, hs⟩]
theorem dng_0 {V : zV} {ρ : Nat → Nat} {c m : Nat} (h4 : vK V c = 0) (hb : (ρ 24).testBit m = false) : dng V ρ c m = some (rsk (vX V) (ρ m) (ρ (12 + m)) (vL V c) (ρ 27 % 8) (menOth (vN V) ρ m)) := by unfold dng; rw [if_neg (by omega), if_neg (by rw [hb, h4]; decide), if_neg (by omega), if_neg (by omega), if_neg (by omega)]; dsimp only; rw [if_neg (by omega)]; rfl
theorem dng_1 {V : zV} {ρ : Nat → Nat} {c m : Nat} (h4 : vK V c = 1) (hb : (ρ 24).testBit m = false) : dng V ρ c m = some (rsk (vX V) (ρ m / 2) (ρ (12 + m)) (vL V c) (ρ 27 % 8) (menOth (vN V) ρ m)) := by unfold dng; rw [if_neg (by omega), if_neg (by rw [hb, h4]; decide), if_neg (by omega), if_pos h4]; dsimp only; rw [if_neg (by omega)]; rfl
theorem dng_2 {V : zV} {ρ : Nat → Nat} {c m : Nat} (h4 : vK V c = 2) (hb : (ρ 24).testBit m = false) (hs : vW V (ρ 27 % vS V) = 2) : dng V ρ c m = some (rsk (vX V) 0 (ρ (12 + m)) (vL V c) (ρ 27 % 8) (menOth (vN V) ρ m)) := by unfold dng; rw [if_neg (by omega), if_neg (by rw [hb, h4]; decide), if_neg (by omega), if_neg (by omega), if_pos h4]; dsimp only; rw [if_neg (by omega)]; rfl
theorem dng_3 {V : zV} {ρ : Nat → Nat} {c m : Nat} (h4 : vK V c = 3) (hb : (ρ 24).testBit m = true) : dng V ρ c m = some (rsk (vX V) (ρ m) (ρ (12 + m)) (vL V c) (ρ 27 % 8) (menOth (vN V) ρ m) / 2) := by unfold dng; rw [if_neg (by omega), if_neg (by rw [hb, h4]; decide), if_neg (by omega), if_neg (by omega), if_neg (by omega)]; dsimp only; rw [if_pos h4]; rfl
theorem dng_4 {V : zV} {ρ : Nat → Nat} {c m : Nat} (h4 : vK V c = 4) : dng V ρ c m = some (2 * menSum (vN V) ρ) := by unfold dng; rw [if_pos h4]

theorem c_X12_dangerOf {E : zE} {σ : zT} {V : zV} {j : Nat} {ρ : Nat → Nat} {c m : Nat} (hE : EnvR σ V) (hw : RwIs σ j ρ) (hok : RowOK (vN V) ρ) (hj : zM j = true) (hc : c < vC V) (hm : m < vN V) : CalM E 4 yX12_dangerOf cX12_dangerOf 4 (some .int) [.ref (zA E 33 0), .ref (zA E 33 j), .int (nI c), .int (nI m)] σ (fun r σ' => r = some (.int (gM (dng V ρ c m))) ∧ Fr9 [] [13, 14] σ σ') := by
  refine cal_of_go (own := RX12) rfl (by decide +kernel) (Nat.le_of_ble_eq_true rfl) ?_
  have hn : 1 ≤ vN V ∧ vN V ≤ 12 := ⟨hok.1, hok.2.1⟩
  have hc8 := hE.2.1.1
  have hk4 := (hE.2.1.2.2 c hc).2.2.1
  have hg : ρ 24 < 2 ^ 12 := Nat.lt_of_lt_of_le hok.2.2.2.1 (Nat.pow_le_pow_right (by decide) hok.2.1)
  have hm9 := hok.2.2.1 m (by omega)
  have hsw := (hE.2.2.1.2.2.2 (ρ 27 % vS V) (Nat.mod_lt _ hE.2.2.1.1)).2
  refine go_aload_n (i := 0) (pc := 0) dX12_dangerOf_0 rfl rfl ?_
  refine go_getr2 fl_X12_24 (pc := 1) dX12_dangerOf_1 (by rfl) (by rfl) (by rfl) ?_
  refine go_iload_n (i := 2) (pc := 4) dX12_dangerOf_4 rfl rfl ?_
  refine go_iaload _ (pc := 5) dX12_dangerOf_5 (by first | rfl | (apply zM_ar <;> assumption)) (by first | rfl | (apply zM_jn <;> assumption)) rfl (by first | assumption | omega) ?_
  rw [(hE.2.1.2.2 c hc).1]
  rcases (show vK V c < 0 ∨ 3 < vK V c ∨ vK V c = 0 ∨ vK V c = 1 ∨ vK V c = 2 ∨ vK V c = 3 by omega) with h6 | h6 | h6 | h6 | h6 | h6
  · exact absurd h6 (Nat.not_lt_zero _)
  · refine go_tableOut 143 (pc := 6) dX12_dangerOf_6 (by rw [nI_toInt (by omega)]; omega) (by decide) ?_
    refine go_iconst (nI 2) (pc := 143) dX12_dangerOf_143 (by decide) ?_
    refine go_aload_n (i := 0) (pc := 144) dX12_dangerOf_144 rfl rfl ?_
    refine go_aload_n (i := 1) (pc := 145) dX12_dangerOf_145 rfl rfl ?_
    refine go_callV ml_X12_259 mt_X12_allMen (pc := 146) dX12_dangerOf_146 (c_X12_allMen hj hw hok hE.2.2.2) (by rfl) rfl (by rfl) (by decide) (by decide) rfl rfl (Nat.le_of_ble_eq_true rfl) (fun r σ' hp => ?_)
    obtain ⟨rfl, hσ⟩ := hp
    rw [hσ]
    clear hσ σ'
    dsimp only [zRet]
    first | with_reducible refine go_imulN (pc := 149) dX12_dangerOf_149 ?_ | refine go_imul (pc := 149) dX12_dangerOf_149 ?_
    refine go_ireturn (pc := 150) dX12_dangerOf_150 rfl ?_
    exact ⟨by rw [dng_4 (by omega)]; rfl, Fr9.rf⟩
  · refine go_tableIn 36 (pc := 6) dX12_dangerOf_6 (by rw [nI_toInt (by omega)]; omega) (by rw [nI_toInt (by omega)]; omega) (by rw [nI_toInt (by omega)]; rw [h6]; rfl) (by decide) ?_
    refine go_aload_n (i := 0) (pc := 36) dX12_dangerOf_36 rfl rfl ?_
    refine go_aload_n (i := 1) (pc := 37) dX12_dangerOf_37 rfl rfl ?_
    refine go_iload_n (i := 3) (pc := 38) dX12_dangerOf_38 rfl rfl ?_
    refine go_callV ml_X12_247 mt_X12_isGate (pc := 39) dX12_dangerOf_39 (c_X12_isGate hj hw hg (by omega)) (by rfl) rfl (by rfl) (by decide) (by decide) rfl rfl (Nat.le_of_ble_eq_true rfl) (fun r σ' hp => ?_)
    obtain ⟨rfl, hσ⟩ := hp
    rw [hσ]
    clear hσ σ'
    dsimp only [zRet]
    refine go_if_eq 49 (pc := 42) dX12_dangerOf_42 (by decide) (fun h42 => ?_) (fun h42 => ?_)
    · rw [zb_0] at h42
      refine go_aload_n (i := 0) (pc := 49) dX12_dangerOf_49 rfl rfl ?_
      refine go_aload_n (i := 1) (pc := 50) dX12_dangerOf_50 rfl rfl ?_
      refine go_iload_n (i := 2) (pc := 51) dX12_dangerOf_51 rfl rfl ?_
      refine go_iload_n (i := 3) (pc := 52) dX12_dangerOf_52 rfl rfl ?_
      refine go_aload_n (i := 1) (pc := 53) dX12_dangerOf_53 rfl rfl ?_
      refine go_iload_n (i := 3) (pc := 54) dX12_dangerOf_54 rfl rfl ?_
      refine go_iaload _ (pc := 55) dX12_dangerOf_55 (by first | rfl | (apply zM_ar <;> assumption)) (by first | rfl | (apply zM_jn <;> assumption)) rfl (by first | assumption | omega) ?_
      rw [hw _ (by omega)]
      refine go_callV ml_X12_251 mt_X12_riskOf (pc := 56) dX12_dangerOf_56 (c_X12_riskOf (V := V) (h := ρ m) hE hw hok hj hc hm) (by rfl) rfl (by rfl) (by decide) (by decide) rfl rfl (Nat.le_of_ble_eq_true rfl) (fun r σ' hp => ?_)
      obtain ⟨rfl, hFp⟩ := hp
      dsimp only [zRet]
      refine go_ireturn (pc := 59) dX12_dangerOf_59 rfl ?_
      first
        | exact ⟨by rw [dng_0 (by omega) h42]; rfl, hFp⟩
        | exact ⟨by rw [dng_g (by omega) (by rw [show vK V c = 0 by omega]; cases hq : (ρ 24).testBit m with | false => exact absurd hq h42 | true => decide)]; rfl, Fr9.rf⟩
    · rw [zb_0] at h42
      refine go_iconst (-1) (pc := 45) dX12_dangerOf_45 (by decide) ?_
      refine go_goto 59 (pc := 46) dX12_dangerOf_46 (by decide) ?_
      refine go_ireturn (pc := 59) dX12_dangerOf_59 rfl ?_
      first
        | exact ⟨by rw [dng_0 (by omega) h42]; rfl, hFp⟩
        | exact ⟨by rw [dng_g (by omega) (by rw [show vK V c = 0 by omega]; cases hq : (ρ 24).testBit m with | false => exact absurd hq h42 | true => decide)]; rfl, Fr9.rf⟩
  · refine go_tableIn 60 (pc := 6) dX12_dangerOf_6 (by rw [nI_toInt (by omega)]; omega) (by rw [nI_toInt (by omega)]; omega) (by rw [nI_toInt (by omega)]; rw [h6]; rfl) (by decide) ?_
    refine go_aload_n (i := 0) (pc := 60) dX12_dangerOf_60 rfl rfl ?_
    refine go_aload_n (i := 1) (pc := 61) dX12_dangerOf_61 rfl rfl ?_
    refine go_iload_n (i := 3) (pc := 62) dX12_dangerOf_62 rfl rfl ?_
    refine go_callV ml_X12_247 mt_X12_isGate (pc := 63) dX12_dangerOf_63 (c_X12_isGate hj hw hg (by omega)) (by rfl) rfl (by rfl) (by decide) (by decide) rfl rfl (Nat.le_of_ble_eq_true rfl) (fun r σ' hp => ?_)
    obtain ⟨rfl, hσ⟩ := hp
    rw [hσ]
    clear hσ σ'
    dsimp only [zRet]
    refine go_if_eq 73 (pc := 66) dX12_dangerOf_66 (by decide) (fun h66 => ?_) (fun h66 => ?_)
    · rw [zb_0] at h66
      refine go_aload_n (i := 0) (pc := 73) dX12_dangerOf_73 rfl rfl ?_
      refine go_aload_n (i := 1) (pc := 74) dX12_dangerOf_74 rfl rfl ?_
      refine go_iload_n (i := 2) (pc := 75) dX12_dangerOf_75 rfl rfl ?_
      refine go_iload_n (i := 3) (pc := 76) dX12_dangerOf_76 rfl rfl ?_
      refine go_aload_n (i := 1) (pc := 77) dX12_dangerOf_77 rfl rfl ?_
      refine go_iload_n (i := 3) (pc := 78) dX12_dangerOf_78 rfl rfl ?_
      refine go_iaload _ (pc := 79) dX12_dangerOf_79 (by first | rfl | (apply zM_ar <;> assumption)) (by first | rfl | (apply zM_jn <;> assumption)) rfl (by first | assumption | omega) ?_
      rw [hw _ (by omega)]
      refine go_iconst (nI 2) (pc := 80) dX12_dangerOf_80 (by decide) ?_
      refine go_idiv (pc := 81) dX12_dangerOf_81 (by decide) ?_
      rw [pk_div (by omega) (by decide) (by decide)]
      refine go_callV ml_X12_251 mt_X12_riskOf (pc := 82) dX12_dangerOf_82 (c_X12_riskOf (V := V) (h := ρ m / 2) hE hw hok hj hc hm) (by rfl) rfl (by rfl) (by decide) (by decide) rfl rfl (Nat.le_of_ble_eq_true rfl) (fun r σ' hp => ?_)
      obtain ⟨rfl, hFp⟩ := hp
      dsimp only [zRet]
      refine go_ireturn (pc := 85) dX12_dangerOf_85 rfl ?_
      first
        | exact ⟨by rw [dng_1 (by omega) h66]; rfl, hFp⟩
        | exact ⟨by rw [dng_g (by omega) (by rw [show vK V c = 1 by omega]; cases hq : (ρ 24).testBit m with | false => exact absurd hq h66 | true => decide)]; rfl, Fr9.rf⟩
    · rw [zb_0] at h66
      refine go_iconst (-1) (pc := 69) dX12_dangerOf_69 (by decide) ?_
      refine go_goto 85 (pc := 70) dX12_dangerOf_70 (by decide) ?_
      refine go_ireturn (pc := 85) dX12_dangerOf_85 rfl ?_
      first
        | exact ⟨by rw [dng_1 (by omega) h66]; rfl, hFp⟩
        | exact ⟨by rw [dng_g (by omega) (by rw [show vK V c = 1 by omega]; cases hq : (ρ 24).testBit m with | false => exact absurd hq h66 | true => decide)]; rfl, Fr9.rf⟩
  · refine go_tableIn 86 (pc := 6) dX12_dangerOf_6 (by rw [nI_toInt (by omega)]; omega) (by rw [nI_toInt (by omega)]; omega) (by rw [nI_toInt (by omega)]; rw [h6]; rfl) (by decide) ?_
    refine go_aload_n (i := 0) (pc := 86) dX12_dangerOf_86 rfl rfl ?_
    refine go_aload_n (i := 1) (pc := 87) dX12_dangerOf_87 rfl rfl ?_
    refine go_iload_n (i := 3) (pc := 88) dX12_dangerOf_88 rfl rfl ?_
    refine go_callV ml_X12_247 mt_X12_isGate (pc := 89) dX12_dangerOf_89 (c_X12_isGate hj hw hg (by omega)) (by rfl) rfl (by rfl) (by decide) (by decide) rfl rfl (Nat.le_of_ble_eq_true rfl) (fun r σ' hp => ?_)
    obtain ⟨rfl, hσ⟩ := hp
    rw [hσ]
    clear hσ σ'
    dsimp only [zRet]
    refine go_if_ne 104 (pc := 92) dX12_dangerOf_92 (by decide) (fun h92 => ?_) (fun h92 => ?_)
    · rw [zb_0] at h92
      refine go_iconst (-1) (pc := 104) dX12_dangerOf_104 (by decide) ?_
      refine go_goto 116 (pc := 105) dX12_dangerOf_105 (by decide) ?_
      refine go_ireturn (pc := 116) dX12_dangerOf_116 rfl ?_
      first
        | exact ⟨by rw [dng_2 (by omega) h92 h101]; rfl, hFp⟩
        | exact ⟨by rw [dng_f (by omega) h92 h101]; rfl, Fr9.rf⟩
        | exact ⟨by rw [dng_g (by omega) (by rw [show vK V c = 2 by omega]; cases hq : (ρ 24).testBit m with | false => exact absurd hq h92 | true => decide)]; rfl, Fr9.rf⟩
    · rw [zb_0] at h92
      refine go_aload_n (i := 0) (pc := 95) dX12_dangerOf_95 rfl rfl ?_
      refine go_aload_n (i := 1) (pc := 96) dX12_dangerOf_96 rfl rfl ?_
      refine go_callV ml_X12_255 mt_X12_skyOf (pc := 97) dX12_dangerOf_97 (c_X12_skyOf hE hw hok hj) (by rfl) rfl (by rfl) (by decide) (by decide) rfl rfl (Nat.le_of_ble_eq_true rfl) (fun r σ' hp => ?_)
      obtain ⟨rfl, hσ⟩ := hp
      rw [hσ]
      clear hσ σ'
      dsimp only [zRet]
      refine go_iconst (nI 2) (pc := 100) dX12_dangerOf_100 (by decide) ?_
      refine go_icmp_eq 108 (pc := 101) dX12_dangerOf_101 (by decide) (fun h101 => ?_) (fun h101 => ?_)
      · first | rw [nI_eq (by omega) (by omega)] at h101 | rw [zi_eqN (by omega)] at h101 | rw [zi_Neq (by omega)] at h101 | rw [zi_eq] at h101
        refine go_aload_n (i := 0) (pc := 108) dX12_dangerOf_108 rfl rfl ?_
        refine go_aload_n (i := 1) (pc := 109) dX12_dangerOf_109 rfl rfl ?_
        refine go_iload_n (i := 2) (pc := 110) dX12_dangerOf_110 rfl rfl ?_
        refine go_iload_n (i := 3) (pc := 111) dX12_dangerOf_111 rfl rfl ?_
        refine go_iconst (nI 0) (pc := 112) dX12_dangerOf_112 (by decide) ?_
        refine go_callV ml_X12_251 mt_X12_riskOf (pc := 113) dX12_dangerOf_113 (c_X12_riskOf (V := V) (h := 0) hE hw hok hj hc hm) (by rfl) rfl (by rfl) (by decide) (by decide) rfl rfl (Nat.le_of_ble_eq_true rfl) (fun r σ' hp => ?_)
        obtain ⟨rfl, hFp⟩ := hp
        dsimp only [zRet]
        refine go_ireturn (pc := 116) dX12_dangerOf_116 rfl ?_
        first
          | exact ⟨by rw [dng_2 (by omega) h92 h101]; rfl, hFp⟩
          | exact ⟨by rw [dng_f (by omega) h92 h101]; rfl, Fr9.rf⟩
          | exact ⟨by rw [dng_g (by omega) (by rw [show vK V c = 2 by omega]; cases hq : (ρ 24).testBit m with | false => exact absurd hq h92 | true => decide)]; rfl, Fr9.rf⟩
      · first | rw [nI_eq (by omega) (by omega)] at h101 | rw [zi_eqN (by omega)] at h101 | rw [zi_Neq (by omega)] at h101 | rw [zi_eq] at h101
        refine go_iconst (-1) (pc := 104) dX12_dangerOf_104 (by decide) ?_
        refine go_goto 116 (pc := 105) dX12_dangerOf_105 (by decide) ?_
        refine go_ireturn (pc := 116) dX12_dangerOf_116 rfl ?_
        first
          | exact ⟨by rw [dng_2 (by omega) h92 h101]; rfl, hFp⟩
          | exact ⟨by rw [dng_f (by omega) h92 h101]; rfl, Fr9.rf⟩
          | exact ⟨by rw [dng_g (by omega) (by rw [show vK V c = 2 by omega]; cases hq : (ρ 24).testBit m with | false => exact absurd hq h92 | true => decide)]; rfl, Fr9.rf⟩
  · refine go_tableIn 117 (pc := 6) dX12_dangerOf_6 (by rw [nI_toInt (by omega)]; omega) (by rw [nI_toInt (by omega)]; omega) (by rw [nI_toInt (by omega)]; rw [h6]; rfl) (by decide) ?_
    refine go_aload_n (i := 0) (pc := 117) dX12_dangerOf_117 rfl rfl ?_
    refine go_aload_n (i := 1) (pc := 118) dX12_dangerOf_118 rfl rfl ?_
    refine go_iload_n (i := 3) (pc := 119) dX12_dangerOf_119 rfl rfl ?_
    refine go_callV ml_X12_247 mt_X12_isGate (pc := 120) dX12_dangerOf_120 (c_X12_isGate hj hw hg (by omega)) (by rfl) rfl (by rfl) (by decide) (by decide) rfl rfl (Nat.le_of_ble_eq_true rfl) (fun r σ' hp => ?_)
    obtain ⟨rfl, hσ⟩ := hp
    rw [hσ]
    clear hσ σ'
    dsimp only [zRet]
    refine go_if_eq 141 (pc := 123) dX12_dangerOf_123 (by decide) (fun h123 => ?_) (fun h123 => ?_)
    · rw [zb_0] at h123
      refine go_iconst (-1) (pc := 141) dX12_dangerOf_141 (by decide) ?_
      refine go_ireturn (pc := 142) dX12_dangerOf_142 rfl ?_
      first
        | exact ⟨by rw [dng_3 (by omega) (by cases hq : (ρ 24).testBit m with | true => rfl | false => exact absurd hq h123)]; rfl, hFp⟩
        | exact ⟨by rw [dng_g (by omega) (by rw [h123, show vK V c = 3 by omega]; decide)]; rfl, Fr9.rf⟩
    · rw [zb_0] at h123
      refine go_aload_n (i := 0) (pc := 126) dX12_dangerOf_126 rfl rfl ?_
      refine go_aload_n (i := 1) (pc := 127) dX12_dangerOf_127 rfl rfl ?_
      refine go_iload_n (i := 2) (pc := 128) dX12_dangerOf_128 rfl rfl ?_
      refine go_iload_n (i := 3) (pc := 129) dX12_dangerOf_129 rfl rfl ?_
      refine go_aload_n (i := 1) (pc := 130) dX12_dangerOf_130 rfl rfl ?_
      refine go_iload_n (i := 3) (pc := 131) dX12_dangerOf_131 rfl rfl ?_
      refine go_iaload _ (pc := 132) dX12_dangerOf_132 (by first | rfl | (apply zM_ar <;> assumption)) (by first | rfl | (apply zM_jn <;> assumption)) rfl (by first | assumption | omega) ?_
      rw [hw _ (by omega)]
      refine go_callV ml_X12_251 mt_X12_riskOf (pc := 133) dX12_dangerOf_133 (c_X12_riskOf (V := V) (h := ρ m) hE hw hok hj hc hm) (by rfl) rfl (by rfl) (by decide) (by decide) rfl rfl (Nat.le_of_ble_eq_true rfl) (fun r σ' hp => ?_)
      obtain ⟨rfl, hFp⟩ := hp
      dsimp only [zRet]
      refine go_iconst (nI 2) (pc := 136) dX12_dangerOf_136 (by decide) ?_
      have hr9 := rsk_le (vX V) (ρ m) (ρ (12 + m)) (vL V c) (ρ 27 % 8) (menOth (vN V) ρ m)
      refine go_idiv (pc := 137) dX12_dangerOf_137 (by decide) ?_
      rw [pk_div (by omega) (by decide) (by decide)]
      refine go_goto 142 (pc := 138) dX12_dangerOf_138 (by decide) ?_
      refine go_ireturn (pc := 142) dX12_dangerOf_142 rfl ?_
      first
        | exact ⟨by rw [dng_3 (by omega) (by cases hq : (ρ 24).testBit m with | true => rfl | false => exact absurd hq h123)]; rfl, hFp⟩
        | exact ⟨by rw [dng_g (by omega) (by rw [h123, show vK V c = 3 by omega]; decide)]; rfl, Fr9.rf⟩

