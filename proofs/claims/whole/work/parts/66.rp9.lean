/-! posts: which miles are near a set -/
theorem ner_tb {s : Nat} : ∀ r m, (ner s r).testBit m = true ↔ ∃ o, s.testBit o = true ∧ m ≤ o + r ∧ o ≤ m + r
  | 0, m => ⟨fun h => ⟨m, h, by omega, by omega⟩, fun ⟨o, h1, h2, h3⟩ => by have : o = m := by omega
                                                                            subst this; exact h1⟩
  | r + 1, m => by
    have ih := fun m => ner_tb (s := s) r m
    rw [ner, Nat.testBit_or, Nat.testBit_or, Nat.testBit_div_two_pow, Nat.testBit_mul_two_pow]
    simp only [Bool.or_eq_true, Bool.and_eq_true, decide_eq_true_eq, ih]
    constructor
    · rintro (⟨o, h1, h2, h3⟩ | ⟨h0, o, h1, h2, h3⟩ | ⟨o, h1, h2, h3⟩)
      · exact ⟨o, h1, by omega, by omega⟩
      · exact ⟨o, h1, by omega, by omega⟩
      · exact ⟨o, h1, by omega, by omega⟩
    · rintro ⟨o, h1, h2, h3⟩
      by_cases ha : m ≤ o + r ∧ o ≤ m + r
      · exact Or.inl ⟨o, h1, ha.1, ha.2⟩
      · by_cases hb : o < m
        · exact Or.inr (Or.inl ⟨by omega, o, h1, by omega, by omega⟩)
        · exact Or.inr (Or.inr ⟨o, h1, by omega, by omega⟩)
theorem full_iff {x n : Nat} : x &&& (2 ^ n - 1) = 2 ^ n - 1 ↔ ∀ m, m < n → x.testBit m = true := by
  constructor
  · intro h m hm
    have := congrArg (fun y => y.testBit m) h
    simp only [Nat.testBit_and, Nat.testBit_two_pow_sub_one, hm, decide_true, Bool.and_true] at this
    exact this
  · intro h
    apply Nat.eq_of_testBit_eq
    intro m
    rw [Nat.testBit_and, Nat.testBit_two_pow_sub_one]
    by_cases hm : m < n
    · simp [hm, h m hm]
    · simp [hm]
def nAny (s r m : Nat) : Nat → Bool
  | 0 => false
  | o + 1 => nAny s r m o || (s.testBit o && decide (m ≤ o + r ∧ o ≤ m + r))
def nAll (s r n : Nat) : Nat → Bool
  | 0 => true
  | m + 1 => nAll s r n m && nAny s r m n
theorem nAny_iff {s r m : Nat} : ∀ n, nAny s r m n = true ↔ ∃ o, o < n ∧ s.testBit o = true ∧ m ≤ o + r ∧ o ≤ m + r
  | 0 => ⟨fun h => (by cases h), fun ⟨o, h, _⟩ => absurd h (Nat.not_lt_zero _)⟩
  | n + 1 => by
    rw [nAny, Bool.or_eq_true, nAny_iff n, Bool.and_eq_true, decide_eq_true_eq]
    constructor
    · rintro (⟨o, h1, h2⟩ | ⟨h1, h2⟩)
      · exact ⟨o, by omega, h2⟩
      · exact ⟨n, by omega, h1, h2⟩
    · rintro ⟨o, h1, h2, h3⟩
      by_cases h : o = n
      · subst h; exact Or.inr ⟨h2, h3⟩
      · exact Or.inl ⟨o, by omega, h2, h3⟩
theorem nAll_iff {s r n : Nat} : ∀ k, nAll s r n k = true ↔ ∀ m, m < k → nAny s r m n = true
  | 0 => ⟨fun _ m h => absurd h (Nat.not_lt_zero _), fun _ => rfl⟩
  | k + 1 => by
    rw [nAll, Bool.and_eq_true, nAll_iff k]
    constructor
    · rintro ⟨h1, h2⟩ m hm
      by_cases h : m = k
      · subst h; exact h2
      · exact h1 m (by omega)
    · intro h
      exact ⟨fun m hm => h m (by omega), h k (by omega)⟩
theorem near_eq {s r n : Nat} (hs : s < 2 ^ n) : nAll s r n n = true ↔ ner s r &&& (2 ^ n - 1) = 2 ^ n - 1 := by
  rw [nAll_iff, full_iff]
  constructor
  · intro h m hm
    obtain ⟨o, h1, h2⟩ := (nAny_iff n).mp (h m hm)
    exact (ner_tb r m).mpr ⟨o, h2⟩
  · intro h m hm
    obtain ⟨o, h1, h2⟩ := (ner_tb r m).mp (h m hm)
    refine (nAny_iff n).mpr ⟨o, ?_, h1, h2⟩
    by_cases ho : o < n
    · exact ho
    · rw [Nat.testBit_lt_two_pow (Nat.lt_of_lt_of_le hs (Nat.pow_le_pow_right (by decide) (by omega)))] at h1; cases h1
theorem sumN_ltS {n : Nat} {g h : Nat → Nat} (e : ∀ i, i < n → g i ≤ h i) {k : Nat} (hk : k < n) (hl : g k < h k) : sumN n g < sumN n h := by
  induction n with
  | zero => omega
  | succ n ih =>
    rw [sumN, sumN]
    have h1 := e n (by omega)
    by_cases hkn : k = n
    · subst hkn
      have h2 := sumN_mono (n := k) (g := g) (h := h) (fun i hi => e i (by omega))
      omega
    · have h2 := ih (fun i hi => e i (by omega)) (by omega)
      omega
/-- subsets have no more, proper ones fewer members -/
theorem bcn_sub {x y : Nat} (h : ∀ i, x.testBit i = true → y.testBit i = true) : bcn x ≤ bcn y := sumN_mono (fun i _ => by
  by_cases hx : x.testBit i = true
  · rw [if_pos hx, if_pos (h i hx)]; exact Nat.le_refl _
  · rw [if_neg hx]; exact Nat.zero_le _)
theorem bcn_full {n y : Nat} (hn : n ≤ 12) (hy : y < 2 ^ n - 1) : bcn y < bcn (2 ^ n - 1) := by
  have hex : ∃ k, k < n ∧ ¬ y.testBit k = true := by
    apply Classical.byContradiction
    intro hno
    have hall : ∀ k, k < n → y.testBit k = true := fun k hk => Classical.byContradiction (fun h => hno ⟨k, hk, h⟩)
    have e := full_iff.mpr hall
    have e2 : y &&& (2 ^ n - 1) = y := by
      rw [Nat.and_two_pow_sub_one_eq_mod]
      exact Nat.mod_eq_of_lt (by omega)
    omega
  obtain ⟨k, hk, hny⟩ := hex
  refine sumN_ltS (fun i _ => ?_) (show k < 12 by omega) ?_
  · rw [Nat.testBit_two_pow_sub_one]
    by_cases hi : i < n
    · simp [hi]; split <;> omega
    · rw [if_neg (by rw [Nat.testBit_lt_two_pow (Nat.lt_of_lt_of_le (show y < 2 ^ n by omega) (Nat.pow_le_pow_right (by decide) (by omega)))]; decide)]; exact Nat.zero_le _
  · rw [if_neg hny, Nat.testBit_two_pow_sub_one]
    simp [hk]
/-- the best of the sets up to F by count, then by number -/
def Bst (c : Nat → Nat) (N : Nat → Bool) (F x : Nat) : Prop := N x = true ∧ x ≤ F ∧ ∀ y, y ≤ F → N y = true → c x < c y ∨ (c x = c y ∧ x ≤ y)
theorem Bst.uq {c : Nat → Nat} {N : Nat → Bool} {F x y : Nat} (h : Bst c N F x) (h2 : Bst c N F y) : x = y := by
  have a := h.2.2 y h2.2.1 h2.1
  have b := h2.2.2 x h.2.1 h.1
  omega
def dnS (c : Nat → Nat) (N : Nat → Bool) (F : Nat) : Nat → Nat
  | 0 => F
  | j + 1 => if c (F - j) ≤ c (dnS c N F j) ∧ N (F - j) = true then F - j else dnS c N F j
theorem dnS_ok {c : Nat → Nat} {N : Nat → Bool} {F : Nat} (hF : N F = true) : ∀ j, j ≤ F + 1 → N (dnS c N F j) = true ∧ dnS c N F j ≤ F ∧ F + 1 ≤ dnS c N F j + max j 1 ∧ ∀ y, F + 1 ≤ y + j → y ≤ F → N y = true → c (dnS c N F j) < c y ∨ (c (dnS c N F j) = c y ∧ dnS c N F j ≤ y)
  | 0, _ => ⟨hF, Nat.le_refl _, by show F + 1 ≤ F + max 0 1; omega, fun y h1 h2 => by omega⟩
  | j + 1, hj => by
    obtain ⟨h1, h2, h3, h4⟩ := dnS_ok (c := c) hF j (by omega)
    rw [dnS]
    by_cases h : c (F - j) ≤ c (dnS c N F j) ∧ N (F - j) = true
    · rw [if_pos h]
      refine ⟨h.2, by omega, by omega, fun y hy1 hy2 hy3 => ?_⟩
      by_cases hy : F + 1 ≤ y + j
      · have := h4 y hy hy2 hy3
        omega
      · have e : y = F - j := by omega
        subst e
        omega
    · rw [if_neg h]
      refine ⟨h1, h2, by omega, fun y hy1 hy2 hy3 => ?_⟩
      by_cases hy : F + 1 ≤ y + j
      · exact h4 y hy hy2 hy3
      · have e : y = F - j := by omega
        subst e
        have hc : ¬ c (F - j) ≤ c (dnS c N F j) := fun q => h ⟨q, hy3⟩
        omega
theorem dnS_best {c : Nat → Nat} {N : Nat → Bool} {F : Nat} (hF : N F = true) : Bst c N F (dnS c N F (F + 1)) := by
  obtain ⟨h1, h2, -, h4⟩ := dnS_ok (c := c) hF (F + 1) (Nat.le_refl _)
  exact ⟨h1, h2, fun y hy => h4 y (by omega) hy⟩
theorem pst_ok {r n : Nat} (hn : 1 ≤ n) (hn2 : n ≤ 12) : ∀ i, i ≤ 2 ^ n - 1 → nAll (pst r n i) r n n = true ∧ pst r n i ≤ 2 ^ n - 1 ∧ (pst r n i = 2 ^ n - 1 ∨ pst r n i ≤ i) ∧ ∀ y, 1 ≤ y → y ≤ i → nAll y r n n = true → bcn (pst r n i) < bcn y ∨ (bcn (pst r n i) = bcn y ∧ pst r n i ≤ y)
  | 0, _ => by
    have hp : 2 ^ 1 ≤ 2 ^ n := Nat.pow_le_pow_right (by decide) hn
    refine ⟨?_, Nat.le_refl _, Or.inl rfl, fun y h1 h2 => by omega⟩
    rw [nAll_iff]
    intro m hm
    refine (nAny_iff n).mpr ⟨m, hm, ?_, by omega, by omega⟩
    show (2 ^ n - 1).testBit m = true
    rw [Nat.testBit_two_pow_sub_one]
    simp [hm]
  | i + 1, hi => by
    obtain ⟨h1, h2, h3, h4⟩ := pst_ok (r := r) hn hn2 i (by omega)
    have hlt : i + 1 < 2 ^ n := by omega
    rw [pst]
    by_cases h : bcn (i + 1) < bcn (pst r n i) ∧ ner (i + 1) r &&& (2 ^ n - 1) = 2 ^ n - 1
    · rw [if_pos h]
      refine ⟨(near_eq hlt).mpr h.2, hi, Or.inr (Nat.le_refl _), fun y hy1 hy2 hy3 => ?_⟩
      by_cases hy : y ≤ i
      · have := h4 y hy1 hy hy3; omega
      · have e : y = i + 1 := by omega
        subst e; omega
    · rw [if_neg h]
      refine ⟨h1, h2, by omega, fun y hy1 hy2 hy3 => ?_⟩
      by_cases hy : y ≤ i
      · exact h4 y hy1 hy hy3
      · have e : y = i + 1 := by omega
        subst e
        have hc : ¬ bcn (i + 1) < bcn (pst r n i) := fun q => h ⟨q, (near_eq hlt).mp hy3⟩
        rcases h3 with h3 | h3
        · by_cases he : i + 1 = 2 ^ n - 1
          · rw [h3] at hc ⊢
            rw [he] at hc ⊢
            omega
          · have := bcn_full hn2 (y := i + 1) (by omega)
            rw [← h3] at this
            omega
        · omega
theorem pst_best {r n : Nat} (hn : 1 ≤ n) (hn2 : n ≤ 12) : Bst bcn (fun s => nAll s r n n) (2 ^ n - 1) (pst r n (2 ^ n - 1)) := by
  obtain ⟨h1, h2, -, h4⟩ := pst_ok (r := r) hn hn2 (2 ^ n - 1) (Nat.le_refl _)
  refine ⟨h1, h2, fun y hy hy2 => ?_⟩
  by_cases h0 : y = 0
  · subst h0
    exfalso
    obtain ⟨o, _, h5, _⟩ := (nAny_iff n).mp ((nAll_iff n).mp hy2 0 hn)
    simp at h5
  · exact h4 y (by omega) hy hy2
theorem pst_dn {r n : Nat} (hn : 1 ≤ n) (hn2 : n ≤ 12) : dnS bcn (fun s => nAll s r n n) (2 ^ n - 1) (2 ^ n - 1 + 1) = pst r n (2 ^ n - 1) := (dnS_best (c := bcn) (N := fun s => nAll s r n n) (F := 2 ^ n - 1) (pst_ok (r := r) hn hn2 0 (Nat.zero_le _)).1).uq (pst_best hn hn2)
theorem absN {m o : Nat} (hm : m < 2 ^ 30) (ho : o < 2 ^ 30) : (if (nI m - nI o).toInt < 0 then -(nI m - nI o) else nI m - nI o) = nI (if m < o then o - m else m - o) := by
  have e : (nI m - nI o).toInt = (m : Int) - o := pk_sub_toInt hm ho
  rw [e]
  by_cases h : m < o
  · rw [if_pos (by omega), if_pos h, Int32.neg_sub, pk_sub (by omega)]
  · rw [if_neg (by omega), if_neg h, pk_sub (by omega)]

theorem c_X12_isNear {E : zE} {σ : zT} {s q n : Nat} (h3 : σ.1 33 3 = nI n) (hn : n ≤ 12) (hs : s < 2 ^ 12) (hq : q ≤ 11) : CalM E 1 yX12_isNear cX12_isNear 7 (some .boolean) [.ref (zA E 33 0), .int (nI s), .int (nI q)] σ (fun r σ' => r = some (.int (zb (nAll s q n n))) ∧ σ' = σ) := by
  refine cal_of_go (own := RX12) rfl (by decide +kernel) (Nat.le_of_ble_eq_true rfl) ?_
  have loop : ∀ i : Nat, i ≤ n → GoM E 1 RX12 cX12_isNear 7 (some .boolean) (fun r σ' => r = some (.int (zb (nAll s q n n))) ∧ σ' = σ) σ 5 [(0, .ref (zA E 33 0)), (1, .int (nI s)), (2, .int (nI q)), (3, .int (zb (nAll s q n i))), (4, .int (nI i))] [] := by
    intro i
    induction hz : n - i using Nat.strongRecOn generalizing i with
    | ind z iho =>
      intro hi
      refine go_iload (pc := 5) dX12_isNear_5 rfl ?_
      refine go_aload_n (i := 0) (pc := 7) dX12_isNear_7 rfl rfl ?_
      refine go_geti fl_X12_13 (pc := 8) dX12_isNear_8 (by rfl) ?_
      rw [h3]
      refine go_icmp_ge 89 (pc := 11) dX12_isNear_11 (by decide) (fun h11 => ?_) (fun h11 => ?_)
      · first | rw [nI_leI (by omega) (by omega)] at h11 | rw [zi_leN (by omega)] at h11 | rw [zi_Nle (by omega)] at h11 | rw [zi_le] at h11
        have e : i = n := by omega
        subst e
        refine go_iload_n (i := 3) (pc := 89) dX12_isNear_89 rfl rfl ?_
        refine go_zreturn (pc := 90) dX12_isNear_90 rfl (by first | rfl | (apply zb_nar)) ?_
        exact ⟨rfl, rfl⟩
      · first | rw [nI_leI (by omega) (by omega)] at h11 | rw [zi_leN (by omega)] at h11 | rw [zi_Nle (by omega)] at h11 | rw [zi_le] at h11
        have inner : ∀ k : Nat, k ≤ n → GoM E 1 RX12 cX12_isNear 7 (some .boolean) (fun r σ' => r = some (.int (zb (nAll s q n n))) ∧ σ' = σ) σ 20 [(0, .ref (zA E 33 0)), (1, .int (nI s)), (2, .int (nI q)), (3, .int (zb (nAll s q n i))), (4, .int (nI i)), (5, .int (zb (nAny s q i k))), (6, .int (nI k))] [] := by
          intro k
          induction hzk : n - k using Nat.strongRecOn generalizing k with
          | ind zk ih =>
            intro hk
            refine go_iload (pc := 20) dX12_isNear_20 rfl ?_
            refine go_aload_n (i := 0) (pc := 22) dX12_isNear_22 rfl rfl ?_
            refine go_geti fl_X12_13 (pc := 23) dX12_isNear_23 (by rfl) ?_
            rw [h3]
            refine go_icmp_ge 68 (pc := 26) dX12_isNear_26 (by decide) (fun h26 => ?_) (fun h26 => ?_)
            · first | rw [nI_leI (by omega) (by omega)] at h26 | rw [zi_leN (by omega)] at h26 | rw [zi_Nle (by omega)] at h26 | rw [zi_le] at h26
              have e : k = n := by omega
              subst e
              refine go_iload_n (i := 3) (pc := 68) dX12_isNear_68 rfl rfl ?_
              refine go_if_eq 81 (pc := 69) dX12_isNear_69 (by decide) (fun h69 => ?_) (fun h69 => ?_)
              · rw [zb_0] at h69
                have es : nAll s q k (i + 1) = false := by rw [nAll, h69]; rfl
                refine go_iconst (nI 0) (pc := 81) dX12_isNear_81 (by decide) ?_
                refine go_istore_n (i := 3) (pc := 82) dX12_isNear_82 rfl (by decide) ?_
                refine go_iincN (pc := 83) dX12_isNear_83 rfl (by decide) ?_
                refine go_goto 5 (pc := 86) dX12_isNear_86 (by decide) ?_
                refine go_drop [0, 1, 2, 3, 4] rfl ?_
                refine go_at rfl (show _ = [(0, .ref (zA E 33 0)), (1, .int (nI s)), (2, .int (nI q)), (3, .int (zb (nAll s q k (i + 1)))), (4, .int (nI (i + 1)))] by rw [es]; rfl) rfl ?_
                exact iho (k - (i + 1)) (by omega) (i + 1) rfl (by omega)
              · rw [zb_0] at h69
                have h69 : nAll s q k i = true := by simpa using h69
                refine go_iload (pc := 72) dX12_isNear_72 rfl ?_
                refine go_if_eq 81 (pc := 74) dX12_isNear_74 (by decide) (fun h74 => ?_) (fun h74 => ?_)
                · rw [zb_0] at h74
                  have es : nAll s q k (i + 1) = false := by rw [nAll, h69, h74]; rfl
                  refine go_iconst (nI 0) (pc := 81) dX12_isNear_81 (by decide) ?_
                  refine go_istore_n (i := 3) (pc := 82) dX12_isNear_82 rfl (by decide) ?_
                  refine go_iincN (pc := 83) dX12_isNear_83 rfl (by decide) ?_
                  refine go_goto 5 (pc := 86) dX12_isNear_86 (by decide) ?_
                  refine go_drop [0, 1, 2, 3, 4] rfl ?_
                  refine go_at rfl (show _ = [(0, .ref (zA E 33 0)), (1, .int (nI s)), (2, .int (nI q)), (3, .int (zb (nAll s q k (i + 1)))), (4, .int (nI (i + 1)))] by rw [es]; rfl) rfl ?_
                  exact iho (k - (i + 1)) (by omega) (i + 1) rfl (by omega)
                · rw [zb_0] at h74
                  have es : nAll s q k (i + 1) = true := by rw [nAll, h69]; simpa using h74
                  refine go_iconst (nI 1) (pc := 77) dX12_isNear_77 (by decide) ?_
                  refine go_goto 82 (pc := 78) dX12_isNear_78 (by decide) ?_
                  refine go_istore_n (i := 3) (pc := 82) dX12_isNear_82 rfl (by decide) ?_
                  refine go_iincN (pc := 83) dX12_isNear_83 rfl (by decide) ?_
                  refine go_goto 5 (pc := 86) dX12_isNear_86 (by decide) ?_
                  refine go_drop [0, 1, 2, 3, 4] rfl ?_
                  refine go_at rfl (show _ = [(0, .ref (zA E 33 0)), (1, .int (nI s)), (2, .int (nI q)), (3, .int (zb (nAll s q k (i + 1)))), (4, .int (nI (i + 1)))] by rw [es]; rfl) rfl ?_
                  exact iho (k - (i + 1)) (by omega) (i + 1) rfl (by omega)
            · first | rw [nI_leI (by omega) (by omega)] at h26 | rw [zi_leN (by omega)] at h26 | rw [zi_Nle (by omega)] at h26 | rw [zi_le] at h26
              refine go_iload (pc := 29) dX12_isNear_29 rfl ?_
              refine go_if_ne 55 (pc := 31) dX12_isNear_31 (by decide) (fun h31 => ?_) (fun h31 => ?_)
              · rw [zb_0] at h31
                have h31 : nAny s q i k = true := by simpa using h31
                have es : nAny s q i (k + 1) = true := by rw [nAny, h31]; rfl
                refine go_iconst (nI 1) (pc := 55) dX12_isNear_55 (by decide) ?_
                refine go_goto 60 (pc := 56) dX12_isNear_56 (by decide) ?_
                refine go_istore (pc := 60) dX12_isNear_60 (by decide) ?_
                refine go_iincN (pc := 62) dX12_isNear_62 rfl (by decide) ?_
                refine go_goto 20 (pc := 65) dX12_isNear_65 (by decide) ?_
                refine go_at rfl (show _ = [(0, .ref (zA E 33 0)), (1, .int (nI s)), (2, .int (nI q)), (3, .int (zb (nAll s q n i))), (4, .int (nI i)), (5, .int (zb (nAny s q i (k + 1)))), (6, .int (nI (k + 1)))] by rw [es]; rfl) rfl ?_
                exact ih (n - (k + 1)) (by omega) (k + 1) rfl (by omega)
              · rw [zb_0] at h31
                refine go_iload_n (i := 1) (pc := 34) dX12_isNear_34 rfl rfl ?_
                refine go_iload (pc := 35) dX12_isNear_35 rfl ?_
                refine go_callS ml_X12_114 mt_X12_has (pc := 37) dX12_isNear_37 (c_X12_has hs (by omega)) (by decide) (by decide) rfl rfl (Nat.le_of_ble_eq_true rfl) (fun r σ' hp => ?_)
                obtain ⟨rfl, hσ⟩ := hp
                rw [hσ]
                clear hσ σ'
                dsimp only [zRet]
                refine go_if_eq 59 (pc := 40) dX12_isNear_40 (by decide) (fun h40 => ?_) (fun h40 => ?_)
                · rw [zb_0] at h40
                  have es : nAny s q i (k + 1) = false := by rw [nAny, h31, h40]; rfl
                  refine go_iconst (nI 0) (pc := 59) dX12_isNear_59 (by decide) ?_
                  refine go_istore (pc := 60) dX12_isNear_60 (by decide) ?_
                  refine go_iincN (pc := 62) dX12_isNear_62 rfl (by decide) ?_
                  refine go_goto 20 (pc := 65) dX12_isNear_65 (by decide) ?_
                  refine go_at rfl (show _ = [(0, .ref (zA E 33 0)), (1, .int (nI s)), (2, .int (nI q)), (3, .int (zb (nAll s q n i))), (4, .int (nI i)), (5, .int (zb (nAny s q i (k + 1)))), (6, .int (nI (k + 1)))] by rw [es]; rfl) rfl ?_
                  exact ih (n - (k + 1)) (by omega) (k + 1) rfl (by omega)
                · rw [zb_0] at h40
                  have h40 : s.testBit k = true := by simpa using h40
                  refine go_iload (pc := 43) dX12_isNear_43 rfl ?_
                  refine go_iload (pc := 45) dX12_isNear_45 rfl ?_
                  refine go_isub (pc := 47) dX12_isNear_47 ?_
                  refine go_callS ml_X12_386 mt_J9_abs_0f7a4 (pc := 48) dX12_isNear_48 (c_J9_abs_0f7a4) (by decide) (by decide) rfl rfl (Nat.le_of_ble_eq_true rfl) (fun r σ' hp => ?_)
                  obtain ⟨rfl, hσ⟩ := hp
                  rw [hσ]
                  clear hσ σ'
                  dsimp only [zRet]
                  rw [absN (by omega) (by omega), show (if i < k then k - i else i - k) = k - i + (i - k) by split <;> omega]
                  refine go_iload_n (i := 2) (pc := 51) dX12_isNear_51 rfl rfl ?_
                  refine go_icmp_gt 59 (pc := 52) dX12_isNear_52 (by decide) (fun h52 => ?_) (fun h52 => ?_)
                  · first | rw [nI_ltI (by omega) (by omega)] at h52 | rw [zi_ltN (by omega)] at h52 | rw [zi_Nlt (by omega)] at h52 | rw [zi_lt] at h52
                    have es : nAny s q i (k + 1) = false := by rw [nAny, h31, h40, decide_eq_false (by omega)]; rfl
                    refine go_iconst (nI 0) (pc := 59) dX12_isNear_59 (by decide) ?_
                    refine go_istore (pc := 60) dX12_isNear_60 (by decide) ?_
                    refine go_iincN (pc := 62) dX12_isNear_62 rfl (by decide) ?_
                    refine go_goto 20 (pc := 65) dX12_isNear_65 (by decide) ?_
                    refine go_at rfl (show _ = [(0, .ref (zA E 33 0)), (1, .int (nI s)), (2, .int (nI q)), (3, .int (zb (nAll s q n i))), (4, .int (nI i)), (5, .int (zb (nAny s q i (k + 1)))), (6, .int (nI (k + 1)))] by rw [es]; rfl) rfl ?_
                    exact ih (n - (k + 1)) (by omega) (k + 1) rfl (by omega)
                  · first | rw [nI_ltI (by omega) (by omega)] at h52 | rw [zi_ltN (by omega)] at h52 | rw [zi_Nlt (by omega)] at h52 | rw [zi_lt] at h52
                    have es : nAny s q i (k + 1) = true := by rw [nAny, h31, h40, decide_eq_true (by omega)]; rfl
                    refine go_iconst (nI 1) (pc := 55) dX12_isNear_55 (by decide) ?_
                    refine go_goto 60 (pc := 56) dX12_isNear_56 (by decide) ?_
                    refine go_istore (pc := 60) dX12_isNear_60 (by decide) ?_
                    refine go_iincN (pc := 62) dX12_isNear_62 rfl (by decide) ?_
                    refine go_goto 20 (pc := 65) dX12_isNear_65 (by decide) ?_
                    refine go_at rfl (show _ = [(0, .ref (zA E 33 0)), (1, .int (nI s)), (2, .int (nI q)), (3, .int (zb (nAll s q n i))), (4, .int (nI i)), (5, .int (zb (nAny s q i (k + 1)))), (6, .int (nI (k + 1)))] by rw [es]; rfl) rfl ?_
                    exact ih (n - (k + 1)) (by omega) (k + 1) rfl (by omega)
        refine go_iconst (nI 0) (pc := 14) dX12_isNear_14 (by decide) ?_
        refine go_istore (pc := 15) dX12_isNear_15 (by decide) ?_
        refine go_iconst (nI 0) (pc := 17) dX12_isNear_17 (by decide) ?_
        refine go_istore (pc := 18) dX12_isNear_18 (by decide) ?_
        exact inner 0 (Nat.zero_le _)
  refine go_iconst (nI 1) (pc := 0) dX12_isNear_0 (by decide) ?_
  refine go_istore_n (i := 3) (pc := 1) dX12_isNear_1 rfl (by decide) ?_
  refine go_iconst (nI 0) (pc := 2) dX12_isNear_2 (by decide) ?_
  refine go_istore (pc := 3) dX12_isNear_3 (by decide) ?_
  exact loop 0 (Nat.zero_le _)

theorem c_X12_posts {E : zE} {σ : zT} {tx : Nat × (Nat → Nat)} {bd : Nat × (Nat → Nat) × (Nat → Nat)} {sk : Nat × (Nat → Nat)} {tw : Nat × (Nat → Nat) × (Nat → Nat)} {xs : List Nat} {ld : Nat × (Nat → Nat)} {pa sh : Nat × (Nat → Nat → Nat)} {ru : Nat × (Nat → Nat) × (Nat → Nat)} {to : Nat × (Nat → Int64)} {r0 : Int32} (hC : RefIs σ tx bd sk tw xs ld pa sh ru to) : CalM E 2 yX12_posts cX12_posts 4 (some .int) [.ref (zA E 33 0), .int r0] σ (fun r σ' => r = some (.int (if in0 r0 11 then nI (bcn (pst r0.toInt.toNat ld.1 (2 ^ ld.1 - 1))) else -1)) ∧ RefIs σ' tx bd sk tw xs ld pa sh ru (if in0 r0 11 then (1, ln1 (lN (pst r0.toInt.toNat ld.1 (2 ^ ld.1 - 1)))) else to) ∧ FrG [33] σ σ') := by
  refine cal_of_go (own := RX12) rfl (by decide +kernel) (Nat.le_of_ble_eq_true rfl) ?_
  have hN := hC.2.2.2.2.2.1
  have hn : 1 ≤ ld.1 ∧ ld.1 ≤ 12 := ⟨hN.2.1.1, hN.2.1.2.1⟩
  have hV := hC.env.vok hN.2.1
  have hok := hN.2.1
  have hp12 : 2 ^ ld.1 ≤ 2 ^ 12 := Nat.pow_le_pow_right (by decide) hn.2
  have hp1 : 2 ^ 1 ≤ 2 ^ ld.1 := Nat.pow_le_pow_right (by decide) hn.1
  have hbc : ∀ s, bcn s ≤ 12 * 1 := fun s => sumN_le (c := 1) (fun i _ => by split <;> omega)
  have main : ∀ q : Nat, q ≤ 11 → ∀ τ, Fr9 [0, 27, 28] [13, 14, 16, 8] σ τ → GoM E 2 RX12 cX12_posts 4 (some .int) (fun r σ' => r = some (.int (nI (bcn (pst q ld.1 (2 ^ ld.1 - 1))))) ∧ RefIs σ' tx bd sk tw xs ld pa sh ru (1, ln1 (lN (pst q ld.1 (2 ^ ld.1 - 1)))) ∧ FrG [33] σ σ') τ 30 [(0, .ref (zA E 33 0)), (1, .int (nI q)), (2, .int (nI (2 ^ ld.1 - 1))), (3, .int (nI (2 ^ ld.1 - 1)))] [] := by
    intro q hq τ hF
    have hCt := hC.fr hF (by decide) (by decide)
    have h3 := hCt.2.2.2.2.2.1.1
    have hFn := (pst_ok (r := q) hn.1 hn.2 0 (Nat.zero_le _)).1
    have hdb : ∀ j, j ≤ 2 ^ ld.1 - 1 + 1 → (dnS bcn (fun s => nAll s q ld.1 ld.1) (2 ^ ld.1 - 1) j) < 4096 := fun j hj => by
      have := (dnS_ok (c := bcn) (N := fun s => nAll s q ld.1 ld.1) (F := 2 ^ ld.1 - 1) hFn j hj).2.1
      omega
    have fin : GoM E 2 RX12 cX12_posts 4 (some .int) (fun r σ' => r = some (.int (nI (bcn (pst q ld.1 (2 ^ ld.1 - 1))))) ∧ RefIs σ' tx bd sk tw xs ld pa sh ru (1, ln1 (lN (pst q ld.1 (2 ^ ld.1 - 1)))) ∧ FrG [33] σ σ') τ 30 [(0, .ref (zA E 33 0)), (1, .int (nI q)), (2, .int (nI (pst q ld.1 (2 ^ ld.1 - 1)))), (3, .int (-1))] [] := by
      have hpl : (pst q ld.1 (2 ^ ld.1 - 1)) < 4096 := by have := pst_le (r := q) (n := ld.1) (i := 2 ^ ld.1 - 1) (Nat.le_refl _); omega
      refine go_iload_n (i := 3) (pc := 30) dX12_posts_30 rfl rfl ?_
      refine go_if_lt 66 (pc := 31) dX12_posts_31 (by decide) (fun h31 => ?_) (fun h31 => ?_)
      · refine go_aload_n (i := 0) (pc := 66) dX12_posts_66 rfl rfl ?_
        refine go_iconst (nI 0) (pc := 67) dX12_posts_67 (by decide) ?_
        refine go_puti fp_X12_104 (pc := 68) dX12_posts_68 (by rfl) rfl rfl ?_
        have hFt : Fr9 [0, 1, 27, 28] [1, 13, 14, 16, 8] σ (uS τ 33 1 (nI 0)) := (hF.mono (by simp) (by simp)).uS (by simp)
        have hz1 : (uS τ 33 1 (nI 0)).1 33 1 = nI 0 := uS_s _ _ _ _
        refine go_aload_n (i := 0) (pc := 71) dX12_posts_71 rfl rfl ?_
        refine go_iload_n (i := 2) (pc := 72) dX12_posts_72 rfl rfl ?_
        refine go_i2l (pc := 73) dX12_posts_73 ?_
        rw [nI_l (by omega)]
        refine go_callV ml_X12_333 mt_X12_enters (pc := 74) dX12_posts_74 (c_tell1 hz1) (by rfl) rfl (by rfl) (by decide) (by decide) rfl rfl (Nat.le_of_ble_eq_true rfl) (fun r σ' hp => ?_)
        obtain ⟨rfl, hT1, hF1⟩ := hp
        dsimp only [zRet]
        have hFu := hFt.tr (hF1.mono (by simp) (by simp))
        refine go_iload_n (i := 2) (pc := 77) dX12_posts_77 rfl rfl ?_
        refine go_callS ml_X12_305 mt_J6_bitCount_0f7a4 (pc := 78) dX12_posts_78 (c_bc hpl) (by decide) (by decide) rfl rfl (Nat.le_of_ble_eq_true rfl) (fun r σ' hp => ?_)
        obtain ⟨rfl, hσ⟩ := hp
        rw [hσ]
        clear hσ
        dsimp only [zRet]
        refine go_ireturn (pc := 81) dX12_posts_81 rfl ?_
        exact ⟨rfl, hC.tell hFu (by decide) (by decide) hT1, hFu.1⟩
      · exact absurd (by decide) h31
    have loop : ∀ k : Nat, k ≤ 2 ^ ld.1 - 1 → GoM E 2 RX12 cX12_posts 4 (some .int) (fun r σ' => r = some (.int (nI (bcn (pst q ld.1 (2 ^ ld.1 - 1))))) ∧ RefIs σ' tx bd sk tw xs ld pa sh ru (1, ln1 (lN (pst q ld.1 (2 ^ ld.1 - 1)))) ∧ FrG [33] σ σ') τ 30 [(0, .ref (zA E 33 0)), (1, .int (nI q)), (2, .int (nI (dnS bcn (fun s => nAll s q ld.1 ld.1) (2 ^ ld.1 - 1) (2 ^ ld.1 - 1 - k)))), (3, .int (nI k))] [] := by
      intro k
      induction k with
      | zero =>
        intro hk
        rw [Nat.sub_zero]
        have hj := hdb (2 ^ ld.1 - 1) (by omega)
        have hb1 := hbc 0
        have hb2 := hbc (dnS bcn (fun s => nAll s q ld.1 ld.1) (2 ^ ld.1 - 1) (2 ^ ld.1 - 1))
        have ek : 2 ^ ld.1 - 1 - (2 ^ ld.1 - 1) = 0 := by omega
        
        refine go_iload_n (i := 3) (pc := 30) dX12_posts_30 rfl rfl ?_
        refine go_if_lt 66 (pc := 31) dX12_posts_31 (by decide) (fun h31 => ?_) (fun h31 => ?_)
        · exact absurd h31 (nI_pos (by omega))
        · refine go_iload_n (i := 3) (pc := 34) dX12_posts_34 rfl rfl ?_
          refine go_callS ml_X12_305 mt_J6_bitCount_0f7a4 (pc := 35) dX12_posts_35 (c_bc (by omega)) (by decide) (by decide) rfl rfl (Nat.le_of_ble_eq_true rfl) (fun r σ' hp => ?_)
          obtain ⟨rfl, hσ⟩ := hp
          rw [hσ]
          clear hσ
          dsimp only [zRet]
          refine go_iload_n (i := 2) (pc := 38) dX12_posts_38 rfl rfl ?_
          refine go_callS ml_X12_305 mt_J6_bitCount_0f7a4 (pc := 39) dX12_posts_39 (c_bc hj) (by decide) (by decide) rfl rfl (Nat.le_of_ble_eq_true rfl) (fun r σ' hp => ?_)
          obtain ⟨rfl, hσ⟩ := hp
          rw [hσ]
          clear hσ
          dsimp only [zRet]
          refine go_icmp_gt 58 (pc := 42) dX12_posts_42 (by decide) (fun h42 => ?_) (fun h42 => ?_)
          · first | rw [nI_ltI (by omega) (by omega)] at h42 | rw [zi_ltN (by omega)] at h42 | rw [zi_Nlt (by omega)] at h42 | rw [zi_lt] at h42
            have es : (dnS bcn (fun s => nAll s q ld.1 ld.1) (2 ^ ld.1 - 1) ((2 ^ ld.1 - 1) + 1)) = (dnS bcn (fun s => nAll s q ld.1 ld.1) (2 ^ ld.1 - 1) (2 ^ ld.1 - 1)) := by rw [dnS, ek, if_neg (fun h => by have := h.1; omega)]
            refine go_iload_n (i := 2) (pc := 58) dX12_posts_58 rfl rfl ?_
            refine go_istore_n (i := 2) (pc := 59) dX12_posts_59 rfl (by decide) ?_
            refine go_iinc (-1) (pc := 60) dX12_posts_60 rfl (by decide) (by decide) ?_
            refine go_goto 30 (pc := 63) dX12_posts_63 (by decide) ?_
            refine go_at rfl (show _ = [(0, .ref (zA E 33 0)), (1, .int (nI q)), (2, .int (nI (pst q ld.1 (2 ^ ld.1 - 1)))), (3, .int (-1))] by rw [← pst_dn hn.1 hn.2, es]; rfl) rfl ?_
            exact fin
          · first | rw [nI_ltI (by omega) (by omega)] at h42 | rw [zi_ltN (by omega)] at h42 | rw [zi_Nlt (by omega)] at h42 | rw [zi_lt] at h42
            refine go_aload_n (i := 0) (pc := 45) dX12_posts_45 rfl rfl ?_
            refine go_iload_n (i := 3) (pc := 46) dX12_posts_46 rfl rfl ?_
            refine go_iload_n (i := 1) (pc := 47) dX12_posts_47 rfl rfl ?_
            refine go_callV ml_X12_391 mt_X12_isNear (pc := 48) dX12_posts_48 (c_X12_isNear h3 hn.2 (by omega) hq) (by rfl) rfl (by rfl) (by decide) (by decide) rfl rfl (Nat.le_of_ble_eq_true rfl) (fun r σ' hp => ?_)
            obtain ⟨rfl, hσ⟩ := hp
            rw [hσ]
            clear hσ
            dsimp only [zRet]
            refine go_if_eq 58 (pc := 51) dX12_posts_51 (by decide) (fun h51 => ?_) (fun h51 => ?_)
            · rw [zb_0] at h51
              have es : (dnS bcn (fun s => nAll s q ld.1 ld.1) (2 ^ ld.1 - 1) ((2 ^ ld.1 - 1) + 1)) = (dnS bcn (fun s => nAll s q ld.1 ld.1) (2 ^ ld.1 - 1) (2 ^ ld.1 - 1)) := by rw [dnS, ek, if_neg (fun h => by rw [h51] at h; exact absurd h.2 (by decide))]
              refine go_iload_n (i := 2) (pc := 58) dX12_posts_58 rfl rfl ?_
              refine go_istore_n (i := 2) (pc := 59) dX12_posts_59 rfl (by decide) ?_
              refine go_iinc (-1) (pc := 60) dX12_posts_60 rfl (by decide) (by decide) ?_
              refine go_goto 30 (pc := 63) dX12_posts_63 (by decide) ?_
              refine go_at rfl (show _ = [(0, .ref (zA E 33 0)), (1, .int (nI q)), (2, .int (nI (pst q ld.1 (2 ^ ld.1 - 1)))), (3, .int (-1))] by rw [← pst_dn hn.1 hn.2, es]; rfl) rfl ?_
              exact fin
            · rw [zb_0] at h51
              have es : (dnS bcn (fun s => nAll s q ld.1 ld.1) (2 ^ ld.1 - 1) ((2 ^ ld.1 - 1) + 1)) = 0 := by rw [dnS, ek, if_pos ⟨by omega, by simpa using h51⟩]
              refine go_iload_n (i := 3) (pc := 54) dX12_posts_54 rfl rfl ?_
              refine go_goto 59 (pc := 55) dX12_posts_55 (by decide) ?_
              refine go_istore_n (i := 2) (pc := 59) dX12_posts_59 rfl (by decide) ?_
              refine go_iinc (-1) (pc := 60) dX12_posts_60 rfl (by decide) (by decide) ?_
              refine go_goto 30 (pc := 63) dX12_posts_63 (by decide) ?_
              refine go_at rfl (show _ = [(0, .ref (zA E 33 0)), (1, .int (nI q)), (2, .int (nI (pst q ld.1 (2 ^ ld.1 - 1)))), (3, .int (-1))] by rw [← pst_dn hn.1 hn.2, es]; rfl) rfl ?_
              exact fin
      | succ k ihk =>
        intro hk
        have hj := hdb (2 ^ ld.1 - 1 - (k + 1)) (by omega)
        have hb1 := hbc (k + 1)
        have hb2 := hbc (dnS bcn (fun s => nAll s q ld.1 ld.1) (2 ^ ld.1 - 1) (2 ^ ld.1 - 1 - (k + 1)))
        have ek : 2 ^ ld.1 - 1 - (2 ^ ld.1 - 1 - (k + 1)) = (k + 1) := by omega
        
        refine go_iload_n (i := 3) (pc := 30) dX12_posts_30 rfl rfl ?_
        refine go_if_lt 66 (pc := 31) dX12_posts_31 (by decide) (fun h31 => ?_) (fun h31 => ?_)
        · exact absurd h31 (nI_pos (by omega))
        · refine go_iload_n (i := 3) (pc := 34) dX12_posts_34 rfl rfl ?_
          refine go_callS ml_X12_305 mt_J6_bitCount_0f7a4 (pc := 35) dX12_posts_35 (c_bc (by omega)) (by decide) (by decide) rfl rfl (Nat.le_of_ble_eq_true rfl) (fun r σ' hp => ?_)
          obtain ⟨rfl, hσ⟩ := hp
          rw [hσ]
          clear hσ
          dsimp only [zRet]
          refine go_iload_n (i := 2) (pc := 38) dX12_posts_38 rfl rfl ?_
          refine go_callS ml_X12_305 mt_J6_bitCount_0f7a4 (pc := 39) dX12_posts_39 (c_bc hj) (by decide) (by decide) rfl rfl (Nat.le_of_ble_eq_true rfl) (fun r σ' hp => ?_)
          obtain ⟨rfl, hσ⟩ := hp
          rw [hσ]
          clear hσ
          dsimp only [zRet]
          refine go_icmp_gt 58 (pc := 42) dX12_posts_42 (by decide) (fun h42 => ?_) (fun h42 => ?_)
          · first | rw [nI_ltI (by omega) (by omega)] at h42 | rw [zi_ltN (by omega)] at h42 | rw [zi_Nlt (by omega)] at h42 | rw [zi_lt] at h42
            have es : (dnS bcn (fun s => nAll s q ld.1 ld.1) (2 ^ ld.1 - 1) ((2 ^ ld.1 - 1 - (k + 1)) + 1)) = (dnS bcn (fun s => nAll s q ld.1 ld.1) (2 ^ ld.1 - 1) (2 ^ ld.1 - 1 - (k + 1))) := by rw [dnS, ek, if_neg (fun h => by have := h.1; omega)]
            refine go_iload_n (i := 2) (pc := 58) dX12_posts_58 rfl rfl ?_
            refine go_istore_n (i := 2) (pc := 59) dX12_posts_59 rfl (by decide) ?_
            refine go_iinc (nI k) (pc := 60) dX12_posts_60 rfl (by rw [show Int32.ofInt (-1) = -nI 1 by decide, ← Int32.sub_eq_add_neg, pk_sub (by omega)]; rfl) (by decide) ?_
            refine go_goto 30 (pc := 63) dX12_posts_63 (by decide) ?_
            rw [← es]
            rw [show (2 ^ ld.1 - 1 - (k + 1)) + 1 = 2 ^ ld.1 - 1 - k by omega]
            exact ihk (by omega)
          · first | rw [nI_ltI (by omega) (by omega)] at h42 | rw [zi_ltN (by omega)] at h42 | rw [zi_Nlt (by omega)] at h42 | rw [zi_lt] at h42
            refine go_aload_n (i := 0) (pc := 45) dX12_posts_45 rfl rfl ?_
            refine go_iload_n (i := 3) (pc := 46) dX12_posts_46 rfl rfl ?_
            refine go_iload_n (i := 1) (pc := 47) dX12_posts_47 rfl rfl ?_
            refine go_callV ml_X12_391 mt_X12_isNear (pc := 48) dX12_posts_48 (c_X12_isNear h3 hn.2 (by omega) hq) (by rfl) rfl (by rfl) (by decide) (by decide) rfl rfl (Nat.le_of_ble_eq_true rfl) (fun r σ' hp => ?_)
            obtain ⟨rfl, hσ⟩ := hp
            rw [hσ]
            clear hσ
            dsimp only [zRet]
            refine go_if_eq 58 (pc := 51) dX12_posts_51 (by decide) (fun h51 => ?_) (fun h51 => ?_)
            · rw [zb_0] at h51
              have es : (dnS bcn (fun s => nAll s q ld.1 ld.1) (2 ^ ld.1 - 1) ((2 ^ ld.1 - 1 - (k + 1)) + 1)) = (dnS bcn (fun s => nAll s q ld.1 ld.1) (2 ^ ld.1 - 1) (2 ^ ld.1 - 1 - (k + 1))) := by rw [dnS, ek, if_neg (fun h => by rw [h51] at h; exact absurd h.2 (by decide))]
              refine go_iload_n (i := 2) (pc := 58) dX12_posts_58 rfl rfl ?_
              refine go_istore_n (i := 2) (pc := 59) dX12_posts_59 rfl (by decide) ?_
              refine go_iinc (nI k) (pc := 60) dX12_posts_60 rfl (by rw [show Int32.ofInt (-1) = -nI 1 by decide, ← Int32.sub_eq_add_neg, pk_sub (by omega)]; rfl) (by decide) ?_
              refine go_goto 30 (pc := 63) dX12_posts_63 (by decide) ?_
              rw [← es]
              rw [show (2 ^ ld.1 - 1 - (k + 1)) + 1 = 2 ^ ld.1 - 1 - k by omega]
              exact ihk (by omega)
            · rw [zb_0] at h51
              have es : (dnS bcn (fun s => nAll s q ld.1 ld.1) (2 ^ ld.1 - 1) ((2 ^ ld.1 - 1 - (k + 1)) + 1)) = (k + 1) := by rw [dnS, ek, if_pos ⟨by omega, by simpa using h51⟩]
              refine go_iload_n (i := 3) (pc := 54) dX12_posts_54 rfl rfl ?_
              refine go_goto 59 (pc := 55) dX12_posts_55 (by decide) ?_
              refine go_istore_n (i := 2) (pc := 59) dX12_posts_59 rfl (by decide) ?_
              refine go_iinc (nI k) (pc := 60) dX12_posts_60 rfl (by rw [show Int32.ofInt (-1) = -nI 1 by decide, ← Int32.sub_eq_add_neg, pk_sub (by omega)]; rfl) (by decide) ?_
              refine go_goto 30 (pc := 63) dX12_posts_63 (by decide) ?_
              rw [← es]
              rw [show (2 ^ ld.1 - 1 - (k + 1)) + 1 = 2 ^ ld.1 - 1 - k by omega]
              exact ihk (by omega)
    have h := loop (2 ^ ld.1 - 1) (Nat.le_refl _)
    rw [Nat.sub_self] at h
    exact h
  refine go_aload_n (i := 0) (pc := 0) dX12_posts_0 rfl rfl ?_
  refine go_iconst (nI 0) (pc := 1) dX12_posts_1 (by decide) ?_
  refine go_puti fp_X12_97 (pc := 2) dX12_posts_2 (by rfl) rfl rfl ?_
  have hF : Fr9 [0, 27, 28] [13, 14, 16, 8] σ (uS σ 33 0 (nI 0)) := Fr9.rf.uS (by simp)
  refine go_iload_n (i := 1) (pc := 5) dX12_posts_5 rfl rfl ?_
  refine go_i2l (pc := 6) dX12_posts_6 ?_
  refine go_lconst (lN 0) (pc := 7) dX12_posts_7 (by decide) ?_
  refine go_ldc2 (11) kc_X12_389 (pc := 8) dX12_posts_8 ?_
  refine go_callS ml_X12_107 mt_X12_in (pc := 11) dX12_posts_11 (c_in (lo := 0) (hi := 11) (by decide) (by decide)) (by decide) (by decide) rfl rfl (Nat.le_of_ble_eq_true rfl) (fun r σ' hp => ?_)
  obtain ⟨rfl, hσ⟩ := hp
  rw [hσ]
  clear hσ σ'
  dsimp only [zRet]
  refine go_if_ne 19 (pc := 14) dX12_posts_14 (by decide) (fun h14 => ?_) (fun h14 => ?_)
  · first | rw [zb_0d] at h14 | rw [zn_eq0 (by omega)] at h14 | rw [zi_eq0] at h14
    rw [if_pos (by omega), if_pos (by omega)]
    have hr11 : r0.toInt ≤ 11 := by omega
    have eq := nI_of' (x := r0) (by omega)
    generalize hqq : r0.toInt.toNat = q at eq ⊢
    subst eq
    refine go_iconst (nI 1) (pc := 19) dX12_posts_19 (by decide) ?_
    refine go_aload_n (i := 0) (pc := 20) dX12_posts_20 rfl rfl ?_
    refine go_geti fl_X12_13 (pc := 21) dX12_posts_21 (by rfl) ?_
    rw [(hC.fr hF (by decide) (by decide)).2.2.2.2.2.1.1]
    refine go_ishl (pc := 24) dX12_posts_24 ?_
    rw [zshlP ld.1 hn.2]
    refine go_iconst (nI 1) (pc := 25) dX12_posts_25 (by decide) ?_
    first | with_reducible refine go_isubN (pc := 26) dX12_posts_26 (by omega) ?_ | refine go_isub (pc := 26) dX12_posts_26 ?_
    refine go_istore_n (i := 2) (pc := 27) dX12_posts_27 rfl (by decide) ?_
    refine go_iload_n (i := 2) (pc := 28) dX12_posts_28 rfl rfl ?_
    refine go_istore_n (i := 3) (pc := 29) dX12_posts_29 rfl (by decide) ?_
    exact main q (by omega) _ hF
  · first | rw [zb_0d] at h14 | rw [zn_eq0 (by omega)] at h14 | rw [zi_eq0] at h14
    refine go_iconst (-1) (pc := 17) dX12_posts_17 (by decide) ?_
    refine go_ireturn (pc := 18) dX12_posts_18 rfl ?_
    rw [if_neg (by omega), if_neg (by omega)]
    exact ⟨rfl, hC.fr hF (by decide) (by decide), hF.1⟩

theorem wlk_min {s k n : Nat} (hn : 1 ≤ n) : (if 2 * (n - 1) = 0 then 0 else min ((s % n + k) % (2 * (n - 1))) (2 * (n - 1) - (s % n + k) % (2 * (n - 1)))) = wlk s k n := by
  unfold wlk
  by_cases h : n < 2
  · rw [if_pos h, if_pos (by omega)]
  · rw [if_neg h, if_neg (by omega)]
    have := Nat.mod_lt (s % n + k) (show 2 * (n - 1) > 0 by omega)
    split <;> omega

theorem c_X12_rounds {E : zE} {σ : zT} {tx : Nat × (Nat → Nat)} {bd : Nat × (Nat → Nat) × (Nat → Nat)} {sk : Nat × (Nat → Nat)} {tw : Nat × (Nat → Nat) × (Nat → Nat)} {xs : List Nat} {ld : Nat × (Nat → Nat)} {pa sh : Nat × (Nat → Nat → Nat)} {ru : Nat × (Nat → Nat) × (Nat → Nat)} {to : Nat × (Nat → Int64)} {n k : Int32} (hC : RefIs σ tx bd sk tw xs ld pa sh ru to) : CalM E 2 yX12_rounds cX12_rounds 7 (some .int) [.ref (zA E 33 0), .int n, .int k] σ (fun r σ' => r = some (.int (if (1 ≤ n.toInt ∧ n.toInt ≤ 9 ∧ in0 k 60) then (rnd k.toInt.toNat ld.1 n.toInt.toNat) else -1)) ∧ RefIs σ' tx bd sk tw xs ld pa sh ru (if (1 ≤ n.toInt ∧ n.toInt ≤ 9 ∧ in0 k 60) then (1, ln1 (bcE (rnd k.toInt.toNat ld.1 n.toInt.toNat)).toInt64) else to) ∧ FrG [33] σ σ') := by
  refine cal_of_go (own := RX12) rfl (by decide +kernel) (Nat.le_of_ble_eq_true rfl) ?_
  have hN := hC.2.2.2.2.2.1
  have hn : 1 ≤ ld.1 ∧ ld.1 ≤ 12 := ⟨hN.2.1.1, hN.2.1.2.1⟩
  have hV := hC.env.vok hN.2.1
  have hok := hN.2.1
  have main : ∀ n1 k1 : Nat, 1 ≤ n1 → n1 ≤ 9 → k1 ≤ 60 → ∀ τ, Fr9 [0, 27, 28] [13, 14, 16, 8] σ τ → GoM E 2 RX12 cX12_rounds 7 (some .int) (fun r σ' => r = some (.int (rnd k1 ld.1 n1)) ∧ RefIs σ' tx bd sk tw xs ld pa sh ru (1, ln1 (bcE (rnd k1 ld.1 n1)).toInt64) ∧ FrG [33] σ σ') τ 31 [(0, .ref (zA E 33 0)), (1, .int (nI n1)), (2, .int (nI k1))] [] := by
    intro n1 k1 hn0 hn1 hk1 τ hF
    have h3 := (hC.fr hF (by decide) (by decide)).2.2.2.2.2.1.1
    have loop : ∀ i : Nat, i ≤ n1 → GoM E 2 RX12 cX12_rounds 7 (some .int) (fun r σ' => r = some (.int (rnd k1 ld.1 n1)) ∧ RefIs σ' tx bd sk tw xs ld pa sh ru (1, ln1 (bcE (rnd k1 ld.1 n1)).toInt64) ∧ FrG [33] σ σ') τ 53 [(0, .ref (zA E 33 0)), (1, .int (nI n1)), (2, .int (nI k1)), (3, .int (rnd k1 ld.1 i)), (4, .int (nI (2 * (ld.1 - 1)))), (5, .int (nI i))] [] := by
      intro i
      induction hz : n1 - i using Nat.strongRecOn generalizing i with
      | ind z ih =>
        intro hi
        have hwl := wlk_lt (s := 2 * i) (k := k1) hn.1
        have hwm := wlk_min (s := 2 * i) (k := k1) hn.1
        refine go_iload (pc := 53) dX12_rounds_53 rfl ?_
        refine go_iload_n (i := 1) (pc := 55) dX12_rounds_55 rfl rfl ?_
        refine go_icmp_ge 107 (pc := 56) dX12_rounds_56 (by decide) (fun h56 => ?_) (fun h56 => ?_)
        · first | rw [nI_leI (by omega) (by omega)] at h56 | rw [zi_leN (by omega)] at h56 | rw [zi_Nle (by omega)] at h56 | rw [zi_le] at h56
          have e : i = n1 := by omega
          subst e
          refine go_aload_n (i := 0) (pc := 107) dX12_rounds_107 rfl rfl ?_
          refine go_iconst (nI 0) (pc := 108) dX12_rounds_108 (by decide) ?_
          refine go_puti fp_X12_104 (pc := 109) dX12_rounds_109 (by rfl) rfl rfl ?_
          have hFt : Fr9 [0, 1, 27, 28] [1, 13, 14, 16, 8] σ (uS τ 33 1 (nI 0)) := (hF.mono (by simp) (by simp)).uS (by simp)
          have hz1 : (uS τ 33 1 (nI 0)).1 33 1 = nI 0 := uS_s _ _ _ _
          refine go_aload_n (i := 0) (pc := 112) dX12_rounds_112 rfl rfl ?_
          refine go_iload_n (i := 3) (pc := 113) dX12_rounds_113 rfl rfl ?_
          refine go_callS ml_X12_305 mt_J6_bitCount_0f7a4 (pc := 114) dX12_rounds_114 (c_J6_bitCount_0f7a4) (by decide) (by decide) rfl rfl (Nat.le_of_ble_eq_true rfl) (fun r σ' hp => ?_)
          obtain ⟨rfl, hσ⟩ := hp
          rw [hσ]
          clear hσ
          dsimp only [zRet]
          refine go_i2l (pc := 117) dX12_rounds_117 ?_
          refine go_callV ml_X12_333 mt_X12_enters (pc := 118) dX12_rounds_118 (c_tell1 hz1) (by rfl) rfl (by rfl) (by decide) (by decide) rfl rfl (Nat.le_of_ble_eq_true rfl) (fun r σ' hp => ?_)
          obtain ⟨rfl, hT1, hF1⟩ := hp
          dsimp only [zRet]
          have hFu := hFt.tr (hF1.mono (by simp) (by simp))
          refine go_iload_n (i := 3) (pc := 121) dX12_rounds_121 rfl rfl ?_
          refine go_ireturn (pc := 122) dX12_rounds_122 rfl ?_
          exact ⟨rfl, hC.tell hFu (by decide) (by decide) hT1, hFu.1⟩
        · first | rw [nI_leI (by omega) (by omega)] at h56 | rw [zi_leN (by omega)] at h56 | rw [zi_Nle (by omega)] at h56 | rw [zi_le] at h56
          refine go_iload (pc := 59) dX12_rounds_59 rfl ?_
          refine go_if_ne 68 (pc := 61) dX12_rounds_61 (by decide) (fun h61 => ?_) (fun h61 => ?_)
          · first | rw [zb_0d] at h61 | rw [zn_eq0 (by omega)] at h61 | rw [zi_eq0] at h61
            have hr1 : 2 * i % ld.1 < ld.1 := Nat.mod_lt _ hn.1
            have hr2 : ((2 * i % ld.1 + k1) % (2 * (ld.1 - 1))) < 2 * (ld.1 - 1) := Nat.mod_lt _ (by omega)
            rw [if_neg h61] at hwm
            have hmm := hwm
            refine go_iconst (nI 2) (pc := 68) dX12_rounds_68 (by decide) ?_
            refine go_iload (pc := 69) dX12_rounds_69 rfl ?_
            first | with_reducible refine go_imulN (pc := 71) dX12_rounds_71 ?_ | refine go_imul (pc := 71) dX12_rounds_71 ?_
            refine go_aload_n (i := 0) (pc := 72) dX12_rounds_72 rfl rfl ?_
            refine go_geti fl_X12_13 (pc := 73) dX12_rounds_73 (by rfl) ?_
            rw [h3]
            refine go_irem (pc := 76) dX12_rounds_76 (by rw [zn_eq0 (by omega)]; omega) ?_
            rw [pk_rem (by omega) (by omega) (by omega)]
            refine go_iload_n (i := 2) (pc := 77) dX12_rounds_77 rfl rfl ?_
            first | with_reducible refine go_iaddN (pc := 78) dX12_rounds_78 ?_ | refine go_iadd (pc := 78) dX12_rounds_78 ?_
            refine go_iload (pc := 79) dX12_rounds_79 rfl ?_
            refine go_irem (pc := 81) dX12_rounds_81 (by rw [zn_eq0 (by omega)]; omega) ?_
            rw [pk_rem (by omega) (by omega) (by omega)]
            refine go_istore (pc := 82) dX12_rounds_82 (by decide) ?_
            refine go_iload_n (i := 3) (pc := 84) dX12_rounds_84 rfl rfl ?_
            refine go_iconst (nI 1) (pc := 85) dX12_rounds_85 (by decide) ?_
            refine go_iload (pc := 86) dX12_rounds_86 rfl ?_
            refine go_iload (pc := 88) dX12_rounds_88 rfl ?_
            refine go_iload (pc := 90) dX12_rounds_90 rfl ?_
            refine go_isubN (pc := 92) dX12_rounds_92 (by omega) ?_
            refine go_callS ml_X12_127 mt_J9_min_7cf53 (pc := 93) dX12_rounds_93 (c_J9_minN (by omega) (by omega)) (by decide) (by decide) rfl rfl (Nat.le_of_ble_eq_true rfl) (fun r σ' hp => ?_)
            obtain ⟨rfl, hσ⟩ := hp
            rw [hσ]
            clear hσ σ'
            dsimp only [zRet]
            refine go_ishl (pc := 96) dX12_rounds_96 ?_
            rw [hmm, zshl1 _ (by omega)]
            refine go_iconst (-1) (pc := 97) dX12_rounds_97 (by decide) ?_
            refine go_ixor (pc := 98) dX12_rounds_98 ?_
            refine go_iand (pc := 99) dX12_rounds_99 ?_
            refine go_istore_n (i := 3) (pc := 100) dX12_rounds_100 rfl (by decide) ?_
            refine go_iincN (pc := 101) dX12_rounds_101 rfl (by decide) ?_
            refine go_goto 53 (pc := 104) dX12_rounds_104 (by decide) ?_
            refine go_drop [0, 1, 2, 3, 4, 5] rfl ?_
            exact ih (n1 - (i + 1)) (by omega) (i + 1) rfl (by omega)
          · first | rw [zb_0d] at h61 | rw [zn_eq0 (by omega)] at h61 | rw [zi_eq0] at h61
            have h61 : 2 * (ld.1 - 1) = 0 := by omega
            rw [if_pos h61] at hwm
            have hmm : min 0 (2 * (ld.1 - 1) - 0) = wlk (2 * i) k1 ld.1 := by rw [← hwm]; omega
            refine go_iconst (nI 0) (pc := 64) dX12_rounds_64 (by decide) ?_
            refine go_goto 82 (pc := 65) dX12_rounds_65 (by decide) ?_
            refine go_istore (pc := 82) dX12_rounds_82 (by decide) ?_
            refine go_iload_n (i := 3) (pc := 84) dX12_rounds_84 rfl rfl ?_
            refine go_iconst (nI 1) (pc := 85) dX12_rounds_85 (by decide) ?_
            refine go_iload (pc := 86) dX12_rounds_86 rfl ?_
            refine go_iload (pc := 88) dX12_rounds_88 rfl ?_
            refine go_iload (pc := 90) dX12_rounds_90 rfl ?_
            refine go_isubN (pc := 92) dX12_rounds_92 (by omega) ?_
            refine go_callS ml_X12_127 mt_J9_min_7cf53 (pc := 93) dX12_rounds_93 (c_J9_minN (by omega) (by omega)) (by decide) (by decide) rfl rfl (Nat.le_of_ble_eq_true rfl) (fun r σ' hp => ?_)
            obtain ⟨rfl, hσ⟩ := hp
            rw [hσ]
            clear hσ σ'
            dsimp only [zRet]
            refine go_ishl (pc := 96) dX12_rounds_96 ?_
            rw [hmm, zshl1 _ (by omega)]
            refine go_iconst (-1) (pc := 97) dX12_rounds_97 (by decide) ?_
            refine go_ixor (pc := 98) dX12_rounds_98 ?_
            refine go_iand (pc := 99) dX12_rounds_99 ?_
            refine go_istore_n (i := 3) (pc := 100) dX12_rounds_100 rfl (by decide) ?_
            refine go_iincN (pc := 101) dX12_rounds_101 rfl (by decide) ?_
            refine go_goto 53 (pc := 104) dX12_rounds_104 (by decide) ?_
            refine go_drop [0, 1, 2, 3, 4, 5] rfl ?_
            exact ih (n1 - (i + 1)) (by omega) (i + 1) rfl (by omega)
    refine go_iconst (nI 1) (pc := 31) dX12_rounds_31 (by decide) ?_
    refine go_aload_n (i := 0) (pc := 32) dX12_rounds_32 rfl rfl ?_
    refine go_geti fl_X12_13 (pc := 33) dX12_rounds_33 (by rfl) ?_
    rw [h3]
    refine go_ishl (pc := 36) dX12_rounds_36 ?_
    rw [zshlP ld.1 hn.2]
    refine go_iconst (nI 1) (pc := 37) dX12_rounds_37 (by decide) ?_
    have hp1 : 0 < 2 ^ ld.1 := Nat.pow_pos (by decide)
    refine go_isubN (pc := 38) dX12_rounds_38 (by omega) ?_
    refine go_istore_n (i := 3) (pc := 39) dX12_rounds_39 rfl (by decide) ?_
    refine go_iconst (nI 2) (pc := 40) dX12_rounds_40 (by decide) ?_
    refine go_aload_n (i := 0) (pc := 41) dX12_rounds_41 rfl rfl ?_
    refine go_geti fl_X12_13 (pc := 42) dX12_rounds_42 (by rfl) ?_
    rw [h3]
    refine go_iconst (nI 1) (pc := 45) dX12_rounds_45 (by decide) ?_
    refine go_isubN (pc := 46) dX12_rounds_46 (by omega) ?_
    first | with_reducible refine go_imulN (pc := 47) dX12_rounds_47 ?_ | refine go_imul (pc := 47) dX12_rounds_47 ?_
    refine go_istore (pc := 48) dX12_rounds_48 (by decide) ?_
    refine go_iconst (nI 0) (pc := 50) dX12_rounds_50 (by decide) ?_
    refine go_istore (pc := 51) dX12_rounds_51 (by decide) ?_
    exact loop 0 (Nat.zero_le _)
  refine go_aload_n (i := 0) (pc := 0) dX12_rounds_0 rfl rfl ?_
  refine go_iconst (nI 0) (pc := 1) dX12_rounds_1 (by decide) ?_
  refine go_puti fp_X12_97 (pc := 2) dX12_rounds_2 (by rfl) rfl rfl ?_
  have hF : Fr9 [0, 27, 28] [13, 14, 16, 8] σ (uS σ 33 0 (nI 0)) := Fr9.rf.uS (by simp)
  refine go_iload_n (i := 1) (pc := 5) dX12_rounds_5 rfl rfl ?_
  refine go_i2l (pc := 6) dX12_rounds_6 ?_
  refine go_lconst (lN 1) (pc := 7) dX12_rounds_7 (by decide) ?_
  refine go_ldc2 (9) kc_X12_303 (pc := 8) dX12_rounds_8 ?_
  refine go_callS ml_X12_107 mt_X12_in (pc := 11) dX12_rounds_11 (c_in (lo := 1) (hi := 9) (by decide) (by decide)) (by decide) (by decide) rfl rfl (Nat.le_of_ble_eq_true rfl) (fun r σ' hp => ?_)
  obtain ⟨rfl, hσ⟩ := hp
  rw [hσ]
  clear hσ σ'
  dsimp only [zRet]
  refine go_if_eq 29 (pc := 14) dX12_rounds_14 (by decide) (fun h14 => ?_) (fun h14 => ?_)
  · first | rw [zb_0d] at h14 | rw [zn_eq0 (by omega)] at h14 | rw [zi_eq0] at h14
    refine go_iconst (-1) (pc := 29) dX12_rounds_29 (by decide) ?_
    refine go_ireturn (pc := 30) dX12_rounds_30 rfl ?_
    rw [if_neg (by omega), if_neg (by omega)]
    exact ⟨rfl, hC.fr hF (by decide) (by decide), hF.1⟩
  · first | rw [zb_0d] at h14 | rw [zn_eq0 (by omega)] at h14 | rw [zi_eq0] at h14
    refine go_iload_n (i := 2) (pc := 17) dX12_rounds_17 rfl rfl ?_
    refine go_i2l (pc := 18) dX12_rounds_18 ?_
    refine go_lconst (lN 0) (pc := 19) dX12_rounds_19 (by decide) ?_
    refine go_ldc2 (60) kc_X12_328 (pc := 20) dX12_rounds_20 ?_
    refine go_callS ml_X12_107 mt_X12_in (pc := 23) dX12_rounds_23 (c_in (lo := 0) (hi := 60) (by decide) (by decide)) (by decide) (by decide) rfl rfl (Nat.le_of_ble_eq_true rfl) (fun r σ' hp => ?_)
    obtain ⟨rfl, hσ⟩ := hp
    rw [hσ]
    clear hσ σ'
    dsimp only [zRet]
    refine go_if_ne 31 (pc := 26) dX12_rounds_26 (by decide) (fun h26 => ?_) (fun h26 => ?_)
    · first | rw [zb_0d] at h26 | rw [zn_eq0 (by omega)] at h26 | rw [zi_eq0] at h26
      rw [if_pos (by omega : (1 ≤ n.toInt ∧ n.toInt ≤ 9 ∧ in0 k 60)), if_pos (by omega : (1 ≤ n.toInt ∧ n.toInt ≤ 9 ∧ in0 k 60))]
      have hh : 1 ≤ n.toInt ∧ n.toInt ≤ 9 ∧ k.toInt ≤ 60 := by omega
      have en1 := nI_of' (x := n) (by omega)
      generalize hqn1 : n.toInt.toNat = n1 at en1 ⊢
      subst en1
      have ek1 := nI_of' (x := k) (by omega)
      generalize hqk1 : k.toInt.toNat = k1 at ek1 ⊢
      subst ek1
      exact main n1 k1 (by omega) (by omega) (by omega) _ hF
    · first | rw [zb_0d] at h26 | rw [zn_eq0 (by omega)] at h26 | rw [zi_eq0] at h26
      refine go_iconst (-1) (pc := 29) dX12_rounds_29 (by decide) ?_
      refine go_ireturn (pc := 30) dX12_rounds_30 rfl ?_
      rw [if_neg (by omega), if_neg (by omega)]
      exact ⟨rfl, hC.fr hF (by decide) (by decide), hF.1⟩

