theorem c_J9_min_7cf53 {E : zE} {σ : zT} {x y : Int32}  : CalM E 0 yJ9_min_7cf53 cJ9_min_7cf53 2 (some .int) [.int x, .int y] σ (fun r σ' => r = some (.int (if x.toInt ≤ y.toInt then x else y)) ∧ σ' = σ) := by
  refine cal_of_go (own := RJ9) rfl (by decide +kernel) (Nat.le_of_ble_eq_true rfl) ?_
  refine go_iload_n (i := 0) (pc := 0) dJ9_min_7cf53_0 rfl rfl ?_
  refine go_iload_n (i := 1) (pc := 1) dJ9_min_7cf53_1 rfl rfl ?_
  refine go_icmp_gt 9 (pc := 2) dJ9_min_7cf53_2 (by decide) (fun h2 => ?_) (fun h2 => ?_)
  · first | rw [nI_ltI (by omega) (by omega)] at h2 | rw [zi_ltN (by omega)] at h2 | rw [zi_Nlt (by omega)] at h2 | rw [zi_lt] at h2
    refine go_iload_n (i := 1) (pc := 9) dJ9_min_7cf53_9 rfl rfl ?_
    refine go_ireturn (pc := 10) dJ9_min_7cf53_10 rfl ?_
    first | exact ⟨by rw [if_pos (by omega)], rfl⟩ | exact ⟨by rw [if_neg (by omega)], rfl⟩
  · first | rw [nI_ltI (by omega) (by omega)] at h2 | rw [zi_ltN (by omega)] at h2 | rw [zi_Nlt (by omega)] at h2 | rw [zi_lt] at h2
    refine go_iload_n (i := 0) (pc := 5) dJ9_min_7cf53_5 rfl rfl ?_
    refine go_goto 10 (pc := 6) dJ9_min_7cf53_6 (by decide) ?_
    refine go_ireturn (pc := 10) dJ9_min_7cf53_10 rfl ?_
    first | exact ⟨by rw [if_pos (by omega)], rfl⟩ | exact ⟨by rw [if_neg (by omega)], rfl⟩

theorem c_J9_max_7cf53 {E : zE} {σ : zT} {x y : Int32}  : CalM E 0 yJ9_max_7cf53 cJ9_max_7cf53 2 (some .int) [.int x, .int y] σ (fun r σ' => r = some (.int (if x.toInt < y.toInt then y else x)) ∧ σ' = σ) := by
  refine cal_of_go (own := RJ9) rfl (by decide +kernel) (Nat.le_of_ble_eq_true rfl) ?_
  refine go_iload_n (i := 0) (pc := 0) dJ9_max_7cf53_0 rfl rfl ?_
  refine go_iload_n (i := 1) (pc := 1) dJ9_max_7cf53_1 rfl rfl ?_
  refine go_icmp_lt 9 (pc := 2) dJ9_max_7cf53_2 (by decide) (fun h2 => ?_) (fun h2 => ?_)
  · first | rw [nI_ltI (by omega) (by omega)] at h2 | rw [zi_ltN (by omega)] at h2 | rw [zi_Nlt (by omega)] at h2 | rw [zi_lt] at h2
    refine go_iload_n (i := 1) (pc := 9) dJ9_max_7cf53_9 rfl rfl ?_
    refine go_ireturn (pc := 10) dJ9_max_7cf53_10 rfl ?_
    first | exact ⟨by rw [if_pos (by omega)], rfl⟩ | exact ⟨by rw [if_neg (by omega)], rfl⟩
  · first | rw [nI_ltI (by omega) (by omega)] at h2 | rw [zi_ltN (by omega)] at h2 | rw [zi_Nlt (by omega)] at h2 | rw [zi_lt] at h2
    refine go_iload_n (i := 0) (pc := 5) dJ9_max_7cf53_5 rfl rfl ?_
    refine go_goto 10 (pc := 6) dJ9_max_7cf53_6 (by decide) ?_
    refine go_ireturn (pc := 10) dJ9_max_7cf53_10 rfl ?_
    first | exact ⟨by rw [if_pos (by omega)], rfl⟩ | exact ⟨by rw [if_neg (by omega)], rfl⟩

theorem c_J9_abs_0f7a4 {E : zE} {σ : zT} {x : Int32}  : CalM E 0 yJ9_abs_0f7a4 cJ9_abs_0f7a4 1 (some .int) [.int x] σ (fun r σ' => r = some (.int (if x.toInt < 0 then -x else x)) ∧ σ' = σ) := by
  refine cal_of_go (own := RJ9) rfl (by decide +kernel) (Nat.le_of_ble_eq_true rfl) ?_
  refine go_iload_n (i := 0) (pc := 0) dJ9_abs_0f7a4_0 rfl rfl ?_
  refine go_if_ge 9 (pc := 1) dJ9_abs_0f7a4_1 (by decide) (fun h1 => ?_) (fun h1 => ?_)
  · first | rw [zb_0d] at h1 | rw [zn_ge0 (by omega)] at h1 | rw [zi_ge0] at h1
    refine go_iload_n (i := 0) (pc := 9) dJ9_abs_0f7a4_9 rfl rfl ?_
    refine go_ireturn (pc := 10) dJ9_abs_0f7a4_10 rfl ?_
    first | exact ⟨by rw [if_pos (by omega)], rfl⟩ | exact ⟨by rw [if_neg (by omega)], rfl⟩
  · first | rw [zb_0d] at h1 | rw [zn_ge0 (by omega)] at h1 | rw [zi_ge0] at h1
    refine go_iload_n (i := 0) (pc := 4) dJ9_abs_0f7a4_4 rfl rfl ?_
    refine go_ineg (pc := 5) dJ9_abs_0f7a4_5 ?_
    refine go_goto 10 (pc := 6) dJ9_abs_0f7a4_6 (by decide) ?_
    refine go_ireturn (pc := 10) dJ9_abs_0f7a4_10 rfl ?_
    first | exact ⟨by rw [if_pos (by omega)], rfl⟩ | exact ⟨by rw [if_neg (by omega)], rfl⟩

theorem zx_nonneg {a b : Nat} (ha : a < 2 ^ 31) (hb : b < 2 ^ 31) : 0 ≤ (nI a ^^^ nI b) := by
  have e : nI a ^^^ nI b = nI (a ^^^ b) := by
    apply Int32.toBitVec_inj.mp
    simp only [nI, Int32.toBitVec_xor, Int32.toBitVec_ofNat', BitVec.ofNat_xor]
  rw [e]
  exact nI_pos' (Nat.xor_lt_two_pow ha hb)

theorem c_J9_floorMod_7cf53 {E : zE} {σ : zT} {a b : Nat} (ha : a < 2 ^ 31) (hb : b < 2 ^ 31) (h0 : 0 < b) : CalM E 0 yJ9_floorMod_7cf53 cJ9_floorMod_7cf53 3 (some .int) [.int (nI a), .int (nI b)] σ (fun r σ' => r = some (.int (nI (a % b))) ∧ σ' = σ) := by
  refine cal_of_go (own := RJ9) rfl (by decide +kernel) (Nat.le_of_ble_eq_true rfl) ?_
  refine go_iload_n (i := 0) (pc := 0) dJ9_floorMod_7cf53_0 rfl rfl ?_
  refine go_iload_n (i := 1) (pc := 1) dJ9_floorMod_7cf53_1 rfl rfl ?_
  refine go_irem dJ9_floorMod_7cf53_2 (fun q => by rw [zn_eq0 hb] at q; omega) ?_
  rw [pk_rem ha h0 hb]
  refine go_istore_n (i := 2) (pc := 3) dJ9_floorMod_7cf53_3 rfl (by decide) ?_
  refine go_iload_n (i := 0) (pc := 4) dJ9_floorMod_7cf53_4 rfl rfl ?_
  refine go_iload_n (i := 1) (pc := 5) dJ9_floorMod_7cf53_5 rfl rfl ?_
  refine go_ixor (pc := 6) dJ9_floorMod_7cf53_6 ?_
  refine go_if_ge 18 (pc := 7) dJ9_floorMod_7cf53_7 (by decide) (fun h7 => ?_) (fun h7 => ?_)
  · refine go_iload_n (i := 2) (pc := 18) dJ9_floorMod_7cf53_18 rfl rfl ?_
    refine go_ireturn (pc := 19) dJ9_floorMod_7cf53_19 rfl ?_
    exact ⟨rfl, rfl⟩
  · exact absurd (zx_nonneg ha hb) h7

theorem c_J9_minN {E : zE} {σ : zT} {a b : Nat} (ha : a < 2 ^ 31) (hb : b < 2 ^ 31) : CalM E 0 yJ9_min_7cf53 cJ9_min_7cf53 2 (some .int) [.int (nI a), .int (nI b)] σ (fun r σ' => r = some (.int (nI (min a b))) ∧ σ' = σ) :=
  cal_weak c_J9_min_7cf53 (fun r σ' h => by
    rw [nI_toInt ha, nI_toInt hb] at h
    refine ⟨h.1.trans ?_, h.2⟩
    by_cases e : a ≤ b
    · rw [if_pos (by omega), Nat.min_eq_left e]
    · rw [if_neg (by omega), Nat.min_eq_right (by omega)])
theorem c_J9_maxN {E : zE} {σ : zT} {a b : Nat} (ha : a < 2 ^ 31) (hb : b < 2 ^ 31) : CalM E 0 yJ9_max_7cf53 cJ9_max_7cf53 2 (some .int) [.int (nI a), .int (nI b)] σ (fun r σ' => r = some (.int (nI (max a b))) ∧ σ' = σ) :=
  cal_weak c_J9_max_7cf53 (fun r σ' h => by
    rw [nI_toInt ha, nI_toInt hb] at h
    refine ⟨h.1.trans ?_, h.2⟩
    by_cases e : a < b
    · rw [if_pos (by omega), Nat.max_eq_right (by omega)]
    · rw [if_neg (by omega), Nat.max_eq_left (by omega)])

theorem c_J7_fill_53178 {E : zE} {σ : zT} {k j n : Nat} {v : Int32} (ha : zak k j = (0, n)) (hz : zJn k j = true) : CalM E 0 yJ7_fill_53178 cJ7_fill_53178 4 none [.ref (zA E k j), .int v] σ (fun r σ' => r = none ∧ ∃ g, σ' = uA σ k j g ∧ ∀ i, i < n → g i = v) := by
  refine cal_of_go (own := RJ7) rfl (by decide +kernel) (Nat.le_of_ble_eq_true rfl) ?_
  have hn := (z_ar ha hz).2.2.2
  have loop : ∀ (i : Nat) (g : Nat → Int32), i ≤ n → (∀ q, q < i → g q = v) → GoM E 0 RJ7 cJ7_fill_53178 4 none (fun r σ' => r = none ∧ ∃ g, σ' = uA σ k j g ∧ ∀ i, i < n → g i = v) (uA σ k j g) 5 [(0, .ref (zA E k j)), (1, .int v), (2, .int (nI i)), (3, .int (nI n))] [] := by
    intro i
    induction hj : n - i using Nat.strongRecOn generalizing i with
    | ind q ih =>
      intro g hi hg
      refine go_iload_n (i := 2) (pc := 5) dJ7_fill_53178_5 rfl rfl ?_
      refine go_iload_n (i := 3) (pc := 6) dJ7_fill_53178_6 rfl rfl ?_
      refine go_icmp_ge 20 (pc := 7) dJ7_fill_53178_7 (by decide) (fun h7 => ?_) (fun h7 => ?_)
      · first | rw [nI_leI (by omega) (by omega)] at h7 | rw [zi_leN (by omega)] at h7 | rw [zi_Nle (by omega)] at h7 | rw [zi_le] at h7
        refine go_return (pc := 20) dJ7_fill_53178_20 rfl ?_
        exact ⟨rfl, g, rfl, fun i2 h2 => hg i2 (by omega)⟩
      · first | rw [nI_leI (by omega) (by omega)] at h7 | rw [zi_leN (by omega)] at h7 | rw [zi_Nle (by omega)] at h7 | rw [zi_le] at h7
        refine go_aload_n (i := 0) (pc := 10) dJ7_fill_53178_10 rfl rfl ?_
        refine go_iload_n (i := 2) (pc := 11) dJ7_fill_53178_11 rfl rfl ?_
        refine go_iload_n (i := 1) (pc := 12) dJ7_fill_53178_12 rfl rfl ?_
        refine go_iastore i dJ7_fill_53178_13 ha hz rfl (by omega) ?_
        rw [uA_uA, uA_s]
        refine go_iincN (pc := 14) dJ7_fill_53178_14 rfl (by decide) ?_
        refine go_goto 5 (pc := 17) dJ7_fill_53178_17 (by decide) ?_
        refine ih (n - (i + 1)) (by omega) (i + 1) rfl _ (by omega) (fun q2 h2 => ?_)
        rw [upd_at]
        by_cases e : q2 = i
        · rw [if_pos e]
        · rw [if_neg e]; exact hg q2 (by omega)
  refine go_iconst (nI 0) (pc := 0) dJ7_fill_53178_0 (by decide) ?_
  refine go_istore_n (i := 2) (pc := 1) dJ7_fill_53178_1 rfl (by decide) ?_
  refine go_aload_n (i := 0) (pc := 2) dJ7_fill_53178_2 rfl rfl ?_
  refine go_alen dJ7_fill_53178_3 ha hz ?_
  refine go_istore_n (i := 3) (pc := 4) dJ7_fill_53178_4 rfl (by decide) ?_
  have h := loop 0 (σ.2.1 k j) (by omega) (fun q h => absurd h (by omega))
  rw [uA_self] at h
  exact h

