theorem saf_nn {V : zV} {ρ : Nat → Nat} {c : Nat} : ∀ {j : Nat}, saf V ρ c j = none → ∀ m, m < j → dng V ρ c m = none
  | 0, _, m, hm => absurd hm (Nat.not_lt_zero _)
  | j + 1, h, m, hm => by
    cases hd : dng V ρ c j with
    | none =>
      rw [saf_n hd] at h
      by_cases e : m = j
      · subst e; exact hd
      · exact saf_nn h m (by omega)
    | some y =>
      cases hs : saf V ρ c j with
      | none => rw [saf_s0 hd hs] at h; cases h
      | some q =>
        by_cases hl : y < q.2
        · rw [saf_s1 hd hs hl] at h; cases h
        · rw [saf_s2 hd hs hl, hs] at h; cases h

/-! walls: whom a set of gates keeps from going over -/
theorem saf_some {V : zV} {ρ : Nat → Nat} {c : Nat} : ∀ {j b x : Nat}, saf V ρ c j = some (b, x) → dng V ρ c b = some x ∧ b < j ∧ ∀ m d, m < j → dng V ρ c m = some d → x ≤ d
  | 0, b, x, h => by cases h
  | j + 1, b, x, h => by
    cases hd : dng V ρ c j with
    | none =>
      rw [saf_n hd] at h
      obtain ⟨h1, h2, h3⟩ := saf_some h
      refine ⟨h1, by omega, fun m d hm hmd => ?_⟩
      by_cases e : m = j
      · subst e; rw [hd] at hmd; cases hmd
      · exact h3 m d (by omega) hmd
    | some y =>
      cases hs : saf V ρ c j with
      | none =>
        rw [saf_s0 hd hs] at h
        cases h
        refine ⟨hd, by omega, fun m d hm hmd => ?_⟩
        by_cases e : m = j
        · subst e; rw [hd] at hmd; cases hmd; exact Nat.le_refl _
        · exfalso
          have := saf_nn (j := j) hs m (by omega)
          rw [this] at hmd; cases hmd
      | some q =>
        obtain ⟨b2, x2⟩ := q
        obtain ⟨h1, h2, h3⟩ := saf_some hs
        by_cases hl : y < x2
        · rw [saf_s1 hd hs hl] at h
          cases h
          refine ⟨hd, by omega, fun m d hm hmd => ?_⟩
          by_cases e : m = j
          · subst e; rw [hd] at hmd; cases hmd; exact Nat.le_refl _
          · have := h3 m d (by omega) hmd; omega
        · rw [saf_s2 hd hs hl, hs] at h
          cases h
          refine ⟨h1, by omega, fun m d hm hmd => ?_⟩
          by_cases e : m = j
          · subst e; rw [hd] at hmd; cases hmd; omega
          · exact h3 m d (by omega) hmd

theorem gos_nn {V : zV} {ρ : Nat → Nat} {c : Nat} : gos V ρ c = none ↔ ∀ m d, m < vN V → dng V ρ c m = some d → ¬ (d : Int) < gain V ρ c := by
  cases he : easy V ρ c with
  | none =>
    rw [gos_none he]
    refine ⟨fun _ m d hm hd => ?_, fun _ => rfl⟩
    rw [saf_nn he m hm] at hd; cases hd
  | some q =>
    obtain ⟨b, x⟩ := q
    obtain ⟨h1, h2, h3⟩ := saf_some he
    rw [gos_some he]
    constructor
    · intro h m d hm hd hlt
      have := h3 m d hm hd
      rw [if_pos (by omega)] at h
      cases h
    · intro h
      rw [if_neg (h b x h2 h1)]
theorem drw_iff {V : zV} {ρ : Nat → Nat} {m : Nat} : ∀ c, drw V ρ m c = true ↔ ∃ k, k < c ∧ vK V k < 3 ∧ ∃ d, dng V ρ k m = some d ∧ (d : Int) < gain V ρ k
  | 0 => ⟨fun h => (by cases h), fun ⟨k, h, _⟩ => absurd h (Nat.not_lt_zero _)⟩
  | c + 1 => by
    rw [drw, Bool.or_eq_true, drw_iff c, Bool.and_eq_true, decide_eq_true_eq]
    constructor
    · rintro (⟨k, h1, h2, h3⟩ | ⟨h1, h2⟩)
      · exact ⟨k, by omega, h2, h3⟩
      · refine ⟨c, by omega, by omega, ?_⟩
        cases hd : dng V ρ c m with
        | none => rw [hd] at h2; cases h2
        | some d => rw [hd] at h2; exact ⟨d, rfl, by simpa using h2⟩
    · rintro ⟨k, h1, h2, d, h3, h4⟩
      by_cases e : k = c
      · subst e
        refine Or.inr ⟨by omega, ?_⟩
        rw [h3]
        simpa using h4
      · exact Or.inl ⟨k, by omega, h2, d, h3, h4⟩
/-- the row with the miles of S made gates -/
def wR (n : Nat) (ρ : Nat → Nat) (S : Nat) : Nat → Nat := fun i => if i < n ∧ S.testBit i = true then 0 else if i = 24 then ρ 24 ||| S else ρ i
def wZ (k : Nat) (ρ : Nat → Nat) (S : Nat) : Nat → Nat := fun i => if i < k ∧ S.testBit i = true then 0 else ρ i
theorem wZ_up (k : Nat) (ρ : Nat → Nat) (S : Nat) : va_up (wZ k ρ S) k (if S.testBit k = true then 0 else ρ k) = wZ (k + 1) ρ S := by
  funext q
  rw [va_at']
  unfold wZ
  by_cases h : q = k
  · subst h
    rw [if_pos rfl]
    by_cases hb : S.testBit q = true
    · rw [if_pos hb, if_pos ⟨by omega, hb⟩]
    · rw [if_neg hb, if_neg (fun e => hb e.2)]
  · rw [if_neg h]
    by_cases hb : q < k ∧ S.testBit q = true
    · rw [if_pos hb, if_pos ⟨by omega, hb.2⟩]
    · rw [if_neg hb, if_neg (fun e => hb ⟨by omega, e.2⟩)]
theorem wZ_wR {n S : Nat} {ρ : Nat → Nat} (hn : n ≤ 12) : va_up (wZ n ρ S) 24 (ρ 24 ||| S) = wR n ρ S := by
  funext q
  rw [va_at']
  unfold wZ wR
  by_cases h : q = 24
  · rw [if_pos h, if_neg (fun e => by have := e.1; omega), if_pos h]
  · rw [if_neg h]
    split
    · rfl
    · rfl
theorem wR_hi {n S i : Nat} {ρ : Nat → Nat} (h : n ≤ i) (h24 : i ≠ 24) : wR n ρ S i = ρ i := by
  unfold wR
  rw [if_neg (fun e => by have := e.1; omega), if_neg h24]
theorem wR_24 {n S : Nat} {ρ : Nat → Nat} (hn : n ≤ 12) : wR n ρ S 24 = ρ 24 ||| S := by
  unfold wR
  rw [if_neg (fun e => by have := e.1; omega), if_pos rfl]
theorem wR_ok {n S : Nat} {ρ : Nat → Nat} (h : RowOK n ρ) (hS : S < 2 ^ n) : RowOK n (wR n ρ S) := by
  obtain ⟨h1, h2, h3, h4, h5, h6, h7, h8⟩ := h
  refine ⟨h1, h2, fun i hi => ?_, ?_, ?_, ?_, ?_, ?_⟩
  · unfold wR
    split
    · exact Nat.zero_le _
    · rw [if_neg (by omega)]; exact h3 i hi
  · rw [wR_24 h2]; exact Nat.or_lt_two_pow h4 hS
  · rw [wR_hi (by omega) (by omega)]; exact h5
  · rw [wR_hi (by omega) (by omega)]; exact h6
  · rw [wR_hi (by omega) (by omega)]; exact h7
  · rw [wR_hi (by omega) (by omega)]; exact h8
theorem wR_dng {V : zV} {ρ : Nat → Nat} {S c m : Nat} (hn : vN V ≤ 12) (hm : m < vN V) (hk : vK V c < 3) : dng V (wR (vN V) ρ S) c m = if S.testBit m = true then none else dng V ρ c m := by
  have e24 := wR_24 (S := S) (ρ := ρ) hn
  have hd : decide (vK V c = 3) = false := decide_eq_false (by omega)
  by_cases hb : S.testBit m = true
  · rw [if_pos hb]
    exact dng_g (by omega) (by rw [e24, Nat.testBit_or, hb, hd, Bool.or_true]; decide)
  · rw [if_neg hb]
    have hb' : S.testBit m = false := by simpa using hb
    have em : wR (vN V) ρ S m = ρ m := by unfold wR; rw [if_neg (fun e => hb e.2), if_neg (by omega)]
    have eg : (wR (vN V) ρ S 24).testBit m = (ρ 24).testBit m := by rw [e24, Nat.testBit_or, hb', Bool.or_false]
    unfold dng
    rw [show menSum (vN V) (wR (vN V) ρ S) = menSum (vN V) ρ from sumN_congr (fun i hi => by rw [wR_hi (i := 12 + i) (by omega) (by omega)]), eg, wR_hi (i := 27) (by omega) (by omega), em, wR_hi (i := 12 + m) (by omega) (by omega), show menOth (vN V) (wR (vN V) ρ S) m = menOth (vN V) ρ m from sumN_congr (fun i hi => by rw [wR_hi (i := 12 + i) (by omega) (by omega)])]
theorem wR_gain {V : zV} {ρ : Nat → Nat} {S c : Nat} (hn : vN V ≤ 12) : gain V (wR (vN V) ρ S) c = gain V ρ c := by
  unfold gain
  rw [wR_hi (by omega) (by omega), wR_hi (by omega) (by omega)]
theorem w_chk {V : zV} {ρ : Nat → Nat} {S : Nat} (hn : vN V ≤ 12) : (∀ c, c < vC V → vK V c < 3 → gos V (wR (vN V) ρ S) c = none) ↔ ∀ m, m < vN V → drw V ρ m (vC V) = true → S.testBit m = true := by
  constructor
  · intro h m hm hd
    obtain ⟨k, h1, h2, d, h3, h4⟩ := (drw_iff _).mp hd
    apply Classical.byContradiction
    intro hb
    refine gos_nn.mp (h k h1 h2) m d hm ?_ (by rw [wR_gain hn]; exact h4)
    rw [wR_dng hn hm h2, if_neg hb]
    exact h3
  · intro h c hc hk
    refine gos_nn.mpr (fun m d hm hd hlt => ?_)
    rw [wR_dng hn hm hk] at hd
    rw [wR_gain hn] at hlt
    by_cases hb : S.testBit m = true
    · rw [if_pos hb] at hd; cases hd
    · rw [if_neg hb] at hd
      exact hb (h m hm ((drw_iff _).mpr ⟨c, hc, hk, d, hd, hlt⟩))
theorem tb_add {a j c : Nat} (h : a < 2 ^ j) : (a + 2 ^ j).testBit c = (a.testBit c || decide (c = j)) := by
  rw [← or_add h, Nat.testBit_or]
  by_cases e : c = j
  · subst e; rw [Nat.testBit_two_pow_self]; simp
  · rw [Nat.testBit_two_pow_of_ne (fun q => e q.symm)]; simp [e]
theorem crs_w1 {V : zV} {ρ : Nat → Nat} (hV : VOK V) (hok : RowOK (vN V) ρ) : ∀ j, j ≤ vC V → (∀ c, c < j → vK V c < 3 → gos V ρ c = none) → (crs V 0 ρ j).2.2.2 = ρ ∧ ∀ c, vK V c < 3 → (crs V 0 ρ j).1.testBit c = false
  | 0, _, _ => ⟨rfl, fun c _ => by show (0 : Nat).testBit c = false; simp⟩
  | j + 1, hj, h => by
    obtain ⟨h1, h2⟩ := crs_w1 hV hok j (by omega) (fun c hc => h c (by omega))
    cases hg : gos V (crs V 0 ρ j).2.2.2 j with
    | none => rw [crs_n (Or.inr hg)]; exact ⟨h1, h2⟩
    | some m =>
      rw [h1] at hg
      have hk : ¬ vK V j < 3 := fun q => by rw [h j (by omega) q] at hg; cases hg
      have hlt := (crs_ok (st := 0) hV hok j (by omega)).2.2.2.1
      rw [crs_s (by simp) (by rw [h1]; exact hg)]
      refine ⟨?_, fun c hc => ?_⟩
      · dsimp only
        rw [if_neg (by omega)]
        exact h1
      · dsimp only
        rw [tb_add hlt, h2 c hc]
        simp
        intro e
        subst e
        exact hk hc
theorem crs_w2 {V : zV} {ρ : Nat → Nat} (hV : VOK V) (hok : RowOK (vN V) ρ) : ∀ j, j ≤ vC V → (∃ c, c < j ∧ vK V c < 3 ∧ ¬ gos V ρ c = none) → ∃ c, c < j ∧ vK V c < 3 ∧ (crs V 0 ρ j).1.testBit c = true
  | 0, _, ⟨c, hc, _⟩ => absurd hc (Nat.not_lt_zero _)
  | j + 1, hj, h => by
    have hlt := (crs_ok (st := 0) hV hok j (by omega)).2.2.2.1
    by_cases hp : ∃ c, c < j ∧ vK V c < 3 ∧ ¬ gos V ρ c = none
    · obtain ⟨c, h1, h2, h3⟩ := crs_w2 hV hok j (by omega) hp
      refine ⟨c, by omega, h2, ?_⟩
      cases hg : gos V (crs V 0 ρ j).2.2.2 j with
      | none => rw [crs_n (Or.inr hg)]; exact h3
      | some m => rw [crs_s (by simp) hg]; dsimp only; rw [tb_add hlt, h3]; rfl
    · have hnp : ∀ c, c < j → vK V c < 3 → gos V ρ c = none := fun c hc hk => Classical.byContradiction (fun q => hp ⟨c, hc, hk, q⟩)
      obtain ⟨h1, h2⟩ := crs_w1 hV hok j (by omega) hnp
      obtain ⟨c, hc, hk, hg⟩ := h
      have e : c = j := Classical.byContradiction (fun q => hp ⟨c, by omega, hk, hg⟩)
      subst e
      obtain ⟨m, hm⟩ := Option.ne_none_iff_exists'.mp hg
      refine ⟨c, by omega, hk, ?_⟩
      rw [crs_s (by simp) (by rw [h1]; exact hm)]
      dsimp only
      rw [tb_add hlt]
      simp
def ovB (V : zV) (j : Nat) : Nat := sumN j (fun c => if (decide (vK V c < 3)) = true then 2 ^ c else 0)
theorem w_bits {V : zV} {ρ : Nat → Nat} (hV : VOK V) (hok : RowOK (vN V) ρ) : (crsA V 0 ρ).1 &&& ovB V (vC V) = 0 ↔ ∀ c, c < vC V → vK V c < 3 → gos V ρ c = none := by
  constructor
  · intro h
    apply Classical.byContradiction
    intro hn
    have hex : ∃ c, c < vC V ∧ vK V c < 3 ∧ ¬ gos V ρ c = none := Classical.byContradiction (fun q => hn (fun c hc hk => Classical.byContradiction (fun w => q ⟨c, hc, hk, w⟩)))
    obtain ⟨c, h1, h2, h3⟩ := crs_w2 hV hok _ (Nat.le_refl _) hex
    have := congrArg (fun y => y.testBit c) h
    simp only [Nat.testBit_and, ovB, bits_tb, Nat.zero_testBit] at this
    rw [show (crsA V 0 ρ).1.testBit c = true from h3] at this
    simp [h1, h2] at this
  · intro h
    obtain ⟨-, h2⟩ := crs_w1 hV hok _ (Nat.le_refl _) h
    apply Nat.eq_of_testBit_eq
    intro c
    rw [Nat.testBit_and, Nat.zero_testBit]
    unfold ovB
    rw [bits_tb]
    by_cases hk : vK V c < 3
    · rw [show (crsA V 0 ρ).1.testBit c = false from h2 c hk]; rfl
    · simp [hk]
theorem wal_e (V : zV) (ρ : Nat → Nat) (n : Nat) : wal V ρ n = sumN n (fun m => if drw V ρ m (vC V) = true then 2 ^ m else 0) := rfl
theorem wal_tb {V : zV} {ρ : Nat → Nat} {n m : Nat} : (wal V ρ n).testBit m = (decide (m < n) && drw V ρ m (vC V)) := by rw [wal_e, bits_tb]
/-- the check that the reference makes of a set -/
theorem w_all {V : zV} {ρ : Nat → Nat} {S : Nat} (hV : VOK V) (hok : RowOK (vN V) ρ) (hS : S < 2 ^ vN V) : (crsA V 0 (wR (vN V) ρ S)).1 &&& ovB V (vC V) = 0 ↔ ∀ i, (wal V ρ (vN V)).testBit i = true → S.testBit i = true := by
  rw [w_bits hV (wR_ok hok hS), w_chk hV.2.1]
  constructor
  · intro h i hi
    rw [wal_tb, Bool.and_eq_true, decide_eq_true_eq] at hi
    exact h i hi.1 hi.2
  · intro h m hm hd
    exact h m (by rw [wal_tb, hd]; simp [hm])
def anN (a b : Nat) : Nat := a &&& (4095 ^^^ b)
theorem tb4095 (i : Nat) : (4095 : Nat).testBit i = decide (i < 12) := Nat.testBit_two_pow_sub_one 12 i
theorem tb_hi {a i : Nat} (ha : a < 4096) (hi : ¬ i < 12) : a.testBit i = false := Nat.testBit_lt_two_pow (Nat.lt_of_lt_of_le (show a < 2 ^ 12 from ha) (Nat.pow_le_pow_right (by decide) (by omega)))
theorem anN_tb {a b i : Nat} (ha : a < 4096) : (anN a b).testBit i = (a.testBit i && !b.testBit i) := by
  unfold anN
  rw [Nat.testBit_and, Nat.testBit_xor, tb4095]
  by_cases hi : i < 12
  · simp [hi]
  · rw [tb_hi ha hi]; rfl
theorem zandnot {a b : Nat} (ha : a < 4096) : nI a &&& (nI b ^^^ (-1)) = nI (anN a b) := by
  rw [show (-1 : Int32) = nI (2 ^ 32 - 1) by decide, zxorN, zandN]
  congr 1
  apply Nat.eq_of_testBit_eq
  intro i
  rw [anN_tb ha, Nat.testBit_and, Nat.testBit_xor, Nat.testBit_two_pow_sub_one]
  by_cases hi : i < 12
  · rw [decide_eq_true (by omega : i < 32), Bool.xor_true]
  · rw [tb_hi ha hi]; rfl
theorem anN_0 {a b : Nat} (ha : a < 4096) : anN a b = 0 ↔ ∀ i, a.testBit i = true → b.testBit i = true := by
  constructor
  · intro h i hi
    have := congrArg (fun y => y.testBit i) h
    simp only [anN_tb ha, Nat.zero_testBit, hi, Bool.true_and, Bool.not_eq_false'] at this
    exact this
  · intro h
    apply Nat.eq_of_testBit_eq
    intro i
    rw [anN_tb ha, Nat.zero_testBit]
    by_cases hi : a.testBit i = true
    · rw [h i hi]; simp
    · simp [hi]
theorem sub_le {a b : Nat} (h : ∀ i, a.testBit i = true → b.testBit i = true) : a ≤ b := by
  have e : a &&& b = a := by
    apply Nat.eq_of_testBit_eq
    intro i
    rw [Nat.testBit_and]
    by_cases hi : a.testBit i = true
    · rw [hi, h i hi]; rfl
    · simp [hi]
  rw [← e]
  exact Nat.and_le_right
theorem anN_le {a b : Nat} : anN a b ≤ a := Nat.and_le_left

theorem c_X12_walls {E : zE} {σ : zT} {tx : Nat × (Nat → Nat)} {bd : Nat × (Nat → Nat) × (Nat → Nat)} {sk : Nat × (Nat → Nat)} {tw : Nat × (Nat → Nat) × (Nat → Nat)} {xs : List Nat} {ld : Nat × (Nat → Nat)} {pa sh : Nat × (Nat → Nat → Nat)} {ru : Nat × (Nat → Nat) × (Nat → Nat)} {to : Nat × (Nat → Int64)} (hC : RefIs σ tx bd sk tw xs ld pa sh ru to) (hro : Roomy ld.2) : CalM E 8 yX12_walls cX12_walls 6 (some .int) [.ref (zA E 33 0)] σ (fun r σ' => r = some (.int (nI (bcn (wal (vOf bd sk xs ld.1) ld.2 ld.1)))) ∧ RefIs σ' tx bd sk tw xs ld pa sh ru (1, ln1 (lN (wal (vOf bd sk xs ld.1) ld.2 ld.1))) ∧ FrG [33] σ σ') := by
  refine cal_of_go (own := RX12) rfl (by decide +kernel) (Nat.le_of_ble_eq_true rfl) ?_
  have hN := hC.2.2.2.2.2.1
  have hn : 1 ≤ ld.1 ∧ ld.1 ≤ 12 := ⟨hN.2.1.1, hN.2.1.2.1⟩
  have hV := hC.env.vok hN.2.1
  have hok := hN.2.1
  have hB := hC.2.2.1
  have hc8 : bd.1 ≤ 8 := hB.1
  have hp12 : 2 ^ ld.1 ≤ 2 ^ 12 := Nat.pow_le_pow_right (by decide) hn.2
  have hp1 : 0 < 2 ^ ld.1 := Nat.pow_pos (by decide)
  have hF4 : 2 ^ ld.1 - 1 < 4096 := by omega
  have hS0 : (anN (2 ^ ld.1 - 1) (ld.2 24)) ≤ 2 ^ ld.1 - 1 := anN_le
  have hgl := hok.2.2.2.1
  have hov : (ovB (vOf bd sk xs ld.1) bd.1) < 2 ^ 31 := Nat.lt_of_lt_of_le (bits_lt (b := fun c => (decide (vK (vOf bd sk xs ld.1) c < 3)) = true) bd.1) (Nat.pow_le_pow_right (by decide) (by omega))
  have hbc : ∀ s, bcn s ≤ 12 * 1 := fun s => sumN_le (c := 1) (fun i _ => by split <;> omega)
  have hWb : (wal (vOf bd sk xs ld.1) ld.2 ld.1) < 2 ^ ld.1 := bits_lt (b := fun m => drw (vOf bd sk xs ld.1) ld.2 m (vC (vOf bd sk xs ld.1)) = true) ld.1
  have hWS : (∀ i, (wal (vOf bd sk xs ld.1) ld.2 ld.1).testBit i = true → ((anN (2 ^ ld.1 - 1) (ld.2 24))).testBit i = true) := fun i hi => by
    rw [anN_tb hF4, Nat.testBit_two_pow_sub_one]
    rw [wal_tb, Bool.and_eq_true, decide_eq_true_eq] at hi
    obtain ⟨k, h1, h2, d, h3, h4⟩ := (drw_iff _).mp hi.2
    have hng : (ld.2 24).testBit i = false := by
      cases hq : (ld.2 24).testBit i with
      | false => rfl
      | true => rw [dng_g (by omega) (by rw [hq, decide_eq_false (by omega : ¬ vK (vOf bd sk xs ld.1) k = 3)]; decide)] at h3; cases h3
    rw [hng]
    simp [hi.1]
  have fin : ∀ τ, Fr9 [0, 27, 28] [13, 14, 16, 8] σ τ → GoM E 8 RX12 cX12_walls 6 (some .int) (fun r σ' => r = some (.int (nI (bcn (wal (vOf bd sk xs ld.1) ld.2 ld.1)))) ∧ RefIs σ' tx bd sk tw xs ld pa sh ru (1, ln1 (lN (wal (vOf bd sk xs ld.1) ld.2 ld.1))) ∧ FrG [33] σ σ') τ 67 [(0, .ref (zA E 33 0)), (1, .int (nI (anN (2 ^ ld.1 - 1) (ld.2 24)))), (2, .int (nI (ovB (vOf bd sk xs ld.1) bd.1))), (3, .int (nI (wal (vOf bd sk xs ld.1) ld.2 ld.1))), (4, .int (-1))] [] := by
    intro τ hF
    refine go_iload (pc := 67) dX12_walls_67 rfl ?_
    refine go_if_lt 182 (pc := 69) dX12_walls_69 (by decide) (fun h69 => ?_) (fun h69 => ?_)
    · refine go_aload_n (i := 0) (pc := 182) dX12_walls_182 rfl rfl ?_
      refine go_iconst (nI 0) (pc := 183) dX12_walls_183 (by decide) ?_
      refine go_puti fp_X12_104 (pc := 184) dX12_walls_184 (by rfl) rfl rfl ?_
      have hFt : Fr9 [0, 1, 27, 28] [1, 13, 14, 16, 8] σ (uS τ 33 1 (nI 0)) := (hF.mono (by simp) (by simp)).uS (by simp)
      have hz1 : (uS τ 33 1 (nI 0)).1 33 1 = nI 0 := uS_s _ _ _ _
      refine go_aload_n (i := 0) (pc := 187) dX12_walls_187 rfl rfl ?_
      refine go_iload_n (i := 3) (pc := 188) dX12_walls_188 rfl rfl ?_
      refine go_i2l (pc := 189) dX12_walls_189 ?_
      rw [nI_l (by omega)]
      refine go_callV ml_X12_333 mt_X12_enters (pc := 190) dX12_walls_190 (c_tell1 hz1) (by rfl) rfl (by rfl) (by decide) (by decide) rfl rfl (Nat.le_of_ble_eq_true rfl) (fun r σ' hp => ?_)
      obtain ⟨rfl, hT1, hF1⟩ := hp
      dsimp only [zRet]
      have hFu := hFt.tr (hF1.mono (by simp) (by simp))
      refine go_iload_n (i := 3) (pc := 193) dX12_walls_193 rfl rfl ?_
      refine go_callS ml_X12_305 mt_J6_bitCount_0f7a4 (pc := 194) dX12_walls_194 (c_bc (by omega)) (by decide) (by decide) rfl rfl (Nat.le_of_ble_eq_true rfl) (fun r σ' hp => ?_)
      obtain ⟨rfl, hσ⟩ := hp
      rw [hσ]
      clear hσ
      dsimp only [zRet]
      refine go_ireturn (pc := 197) dX12_walls_197 rfl ?_
      exact ⟨rfl, hC.tell hFu (by decide) (by decide) hT1, hFu.1⟩
    · exact absurd (by decide) h69
  have step : ∀ (k b : Nat) (τ : zT), k ≤ (anN (2 ^ ld.1 - 1) (ld.2 24)) → b < 4096 → (∀ i, (wal (vOf bd sk xs ld.1) ld.2 ld.1).testBit i = true → (b).testBit i = true) → (k < (wal (vOf bd sk xs ld.1) ld.2 ld.1) → b = (wal (vOf bd sk xs ld.1) ld.2 ld.1)) → Fr9 [0, 27, 28] [13, 14, 16, 8] σ τ → (∀ (b' : Nat) (τ' : zT), b' < 4096 → (∀ i, (wal (vOf bd sk xs ld.1) ld.2 ld.1).testBit i = true → (b').testBit i = true) → (k ≤ (wal (vOf bd sk xs ld.1) ld.2 ld.1) → b' = (wal (vOf bd sk xs ld.1) ld.2 ld.1)) → Fr9 [0, 27, 28] [13, 14, 16, 8] σ τ' → GoM E 8 RX12 cX12_walls 6 (some .int) (fun r σ' => r = some (.int (nI (bcn (wal (vOf bd sk xs ld.1) ld.2 ld.1)))) ∧ RefIs σ' tx bd sk tw xs ld pa sh ru (1, ln1 (lN (wal (vOf bd sk xs ld.1) ld.2 ld.1))) ∧ FrG [33] σ σ') τ' 176 [(0, .ref (zA E 33 0)), (1, .int (nI (anN (2 ^ ld.1 - 1) (ld.2 24)))), (2, .int (nI (ovB (vOf bd sk xs ld.1) bd.1))), (3, .int (nI b')), (4, .int (nI k))] []) → GoM E 8 RX12 cX12_walls 6 (some .int) (fun r σ' => r = some (.int (nI (bcn (wal (vOf bd sk xs ld.1) ld.2 ld.1)))) ∧ RefIs σ' tx bd sk tw xs ld pa sh ru (1, ln1 (lN (wal (vOf bd sk xs ld.1) ld.2 ld.1))) ∧ FrG [33] σ σ') τ 67 [(0, .ref (zA E 33 0)), (1, .int (nI (anN (2 ^ ld.1 - 1) (ld.2 24)))), (2, .int (nI (ovB (vOf bd sk xs ld.1) bd.1))), (3, .int (nI b)), (4, .int (nI k))] [] := by
    intro k b τ hk hb hWb2 hlow hF K
    have hk4 : k < 4096 := by omega
    have hk2 : k < 2 ^ ld.1 := by omega
    have hb1 := hbc k
    have hb2 := hbc b
    have hkeep : ¬ (∀ i, (wal (vOf bd sk xs ld.1) ld.2 ld.1).testBit i = true → (k).testBit i = true) → k ≤ (wal (vOf bd sk xs ld.1) ld.2 ld.1) → b = (wal (vOf bd sk xs ld.1) ld.2 ld.1) := fun hnk hle => by
      by_cases e : k = (wal (vOf bd sk xs ld.1) ld.2 ld.1)
      · exact absurd (fun i hi => by rw [e]; exact hi) hnk
      · exact hlow (by omega)
    have hbcn : (∀ i, (wal (vOf bd sk xs ld.1) ld.2 ld.1).testBit i = true → (k).testBit i = true) → k ≤ (wal (vOf bd sk xs ld.1) ld.2 ld.1) → k = (wal (vOf bd sk xs ld.1) ld.2 ld.1) := fun hs hle => by have := sub_le hs; omega
    refine go_iload (pc := 67) dX12_walls_67 rfl ?_
    refine go_if_lt 182 (pc := 69) dX12_walls_69 (by decide) (fun h69 => ?_) (fun h69 => ?_)
    · exact absurd h69 (nI_pos (by omega))
    · refine go_iload (pc := 72) dX12_walls_72 rfl ?_
      refine go_iload_n (i := 1) (pc := 74) dX12_walls_74 rfl rfl ?_
      refine go_iconst (-1) (pc := 75) dX12_walls_75 (by decide) ?_
      refine go_ixor (pc := 76) dX12_walls_76 ?_
      refine go_iand (pc := 77) dX12_walls_77 ?_
      rw [zandnot hk4]
      refine go_if_ne 176 (pc := 78) dX12_walls_78 (by decide) (fun h78 => ?_) (fun h78 => ?_)
      · have hal : anN k (anN (2 ^ ld.1 - 1) (ld.2 24)) ≤ k := anN_le
        refine K b τ hb hWb2 (fun hle => ?_) hF
        by_cases e : k = (wal (vOf bd sk xs ld.1) ld.2 ld.1)
        · exfalso
          have h0 : anN k (anN (2 ^ ld.1 - 1) (ld.2 24)) = 0 := (anN_0 hk4).mpr (fun i hi => hWS i (by rw [← e]; exact hi))
          exact h78 (by rw [h0]; rfl)
        · exact hlow (by omega)
      · refine go_iload (pc := 81) dX12_walls_81 rfl ?_
        refine go_callS ml_X12_305 mt_J6_bitCount_0f7a4 (pc := 83) dX12_walls_83 (c_bc hk4) (by decide) (by decide) rfl rfl (Nat.le_of_ble_eq_true rfl) (fun r σ' hp => ?_)
        obtain ⟨rfl, hσ⟩ := hp
        rw [hσ]
        clear hσ
        dsimp only [zRet]
        refine go_iload_n (i := 3) (pc := 86) dX12_walls_86 rfl rfl ?_
        refine go_callS ml_X12_305 mt_J6_bitCount_0f7a4 (pc := 87) dX12_walls_87 (c_bc hb) (by decide) (by decide) rfl rfl (Nat.le_of_ble_eq_true rfl) (fun r σ' hp => ?_)
        obtain ⟨rfl, hσ⟩ := hp
        rw [hσ]
        clear hσ
        dsimp only [zRet]
        refine go_icmp_gt 176 (pc := 90) dX12_walls_90 (by decide) (fun h90 => ?_) (fun h90 => ?_)
        · first | rw [nI_ltI (by omega) (by omega)] at h90 | rw [zi_ltN (by omega)] at h90 | rw [zi_Nlt (by omega)] at h90 | rw [zi_lt] at h90
          refine K b τ hb hWb2 (fun hle => ?_) hF
          by_cases e : k = (wal (vOf bd sk xs ld.1) ld.2 ld.1)
          · exfalso
            have := bcn_sub hWb2
            rw [← e] at this
            omega
          · exact hlow (by omega)
        · first | rw [nI_ltI (by omega) (by omega)] at h90 | rw [zi_ltN (by omega)] at h90 | rw [zi_Nlt (by omega)] at h90 | rw [zi_lt] at h90
          have inner : ∀ (i : Nat) (τ : zT), i ≤ ld.1 → RwIs τ 8 (wZ i ld.2 k) → Fr9 [0, 27, 28] [13, 14, 16, 8] σ τ → GoM E 8 RX12 cX12_walls 6 (some .int) (fun r σ' => r = some (.int (nI (bcn (wal (vOf bd sk xs ld.1) ld.2 ld.1)))) ∧ RefIs σ' tx bd sk tw xs ld pa sh ru (1, ln1 (lN (wal (vOf bd sk xs ld.1) ld.2 ld.1))) ∧ FrG [33] σ σ') τ 100 [(0, .ref (zA E 33 0)), (1, .int (nI (anN (2 ^ ld.1 - 1) (ld.2 24)))), (2, .int (nI (ovB (vOf bd sk xs ld.1) bd.1))), (3, .int (nI b)), (4, .int (nI k)), (5, .int (nI i))] [] := by
            intro i
            induction hzi : ld.1 - i using Nat.strongRecOn generalizing i with
            | ind z ihi =>
              intro τ hi hR hF
              have h3 := (hC.fr hF (by decide) (by decide)).2.2.2.2.2.1.1
              have hki : wZ i ld.2 k i = ld.2 i := if_neg (fun e => by have := e.1; omega)
              refine go_iload (pc := 100) dX12_walls_100 rfl ?_
              refine go_aload_n (i := 0) (pc := 102) dX12_walls_102 rfl rfl ?_
              refine go_geti fl_X12_13 (pc := 103) dX12_walls_103 (by rfl) ?_
              rw [h3]
              refine go_icmp_ge 143 (pc := 106) dX12_walls_106 (by decide) (fun h106 => ?_) (fun h106 => ?_)
              · first | rw [nI_leI (by omega) (by omega)] at h106 | rw [zi_leN (by omega)] at h106 | rw [zi_Nle (by omega)] at h106 | rw [zi_le] at h106
                have e : i = ld.1 := by omega
                subst e
                refine go_aload_n (i := 0) (pc := 143) dX12_walls_143 rfl rfl ?_
                refine go_getr2 fl_X12_39 (pc := 144) dX12_walls_144 (by rfl) (by rfl) (by rfl) ?_
                refine go_bipush (nI 24) (pc := 147) dX12_walls_147 (by decide) ?_
                refine go_dup2 (pc := 149) dX12_walls_149 rfl rfl ?_
                refine go_iaload 24 (pc := 150) dX12_walls_150 rfl rfl rfl (by decide) ?_
                rw [hR 24 (by decide), show wZ ld.1 ld.2 k 24 = ld.2 24 from if_neg (fun e => by have := e.1; omega)]
                refine go_iload (pc := 151) dX12_walls_151 rfl ?_
                refine go_ior (pc := 153) dX12_walls_153 ?_
                rw [zorN]
                refine go_iastore _ (pc := 154) dX12_walls_154 (by first | rfl | (apply zM_ar <;> assumption)) (by first | rfl | (apply zM_jn <;> assumption)) rfl (by first | assumption | omega) ?_
                have hR3 : RwIs (uA τ 33 8 (upd (τ.2.1 33 8) 24 (nI (ld.2 24 ||| k)))) 8 (wR ld.1 ld.2 k) := by rw [← wZ_wR hn.2]; exact hR.up
                have hF3 : Fr9 [0, 27, 28] [13, 14, 16, 8] σ (uA τ 33 8 (upd (τ.2.1 33 8) 24 (nI (ld.2 24 ||| k)))) := hF.uA (by simp)
                generalize uA τ 33 8 (upd (τ.2.1 33 8) 24 (nI (ld.2 24 ||| k))) = τ3 at hR3 hF3 ⊢
                refine go_aload_n (i := 0) (pc := 155) dX12_walls_155 rfl rfl ?_
                refine go_aload_n (i := 0) (pc := 156) dX12_walls_156 rfl rfl ?_
                refine go_getr2 fl_X12_39 (pc := 157) dX12_walls_157 (by rfl) (by rfl) (by rfl) ?_
                refine go_iconst (nI 0) (pc := 160) dX12_walls_160 (by decide) ?_
                refine go_callV ml_X12_295 mt_X12_crossings (pc := 161) dX12_walls_161 (c_X12_crossings (V := (vOf bd sk xs ld.1)) (j := 8) (st := 0) (hC.fr hF3 (by decide) (by decide)).env hR3 (wR_ok hok (show k < 2 ^ ld.1 from hk2)) rfl (by decide) (by rw [wR_hi (by omega) (by omega)]; omega)) (by rfl) rfl (by rfl) (by decide) (by decide) rfl rfl (Nat.le_of_ble_eq_true rfl) (fun r σ' hp => ?_)
                obtain ⟨rfl, -, -, hFd⟩ := hp
                dsimp only [zRet]
                have hF4b := hF3.tr (hFd.mono (by simp) (by simp))
                refine go_iload_n (i := 2) (pc := 164) dX12_walls_164 rfl rfl ?_
                refine go_iand (pc := 165) dX12_walls_165 ?_
                rw [zandN]
                refine go_if_ne 174 (pc := 166) dX12_walls_166 (by decide) (fun h166 => ?_) (fun h166 => ?_)
                · have hnchk : ¬ (∀ i, (wal (vOf bd sk xs ld.1) ld.2 ld.1).testBit i = true → (k).testBit i = true) := fun q => h166 (by rw [show (crsA (vOf bd sk xs ld.1) 0 (wR ld.1 ld.2 k)).1 &&& (ovB (vOf bd sk xs ld.1) bd.1) = 0 from (w_all hV hok (show k < 2 ^ vN (vOf bd sk xs ld.1) from hk2)).mpr q]; rfl)
                  refine go_iload_n (i := 3) (pc := 174) dX12_walls_174 rfl rfl ?_
                  refine go_istore_n (i := 3) (pc := 175) dX12_walls_175 rfl (by decide) ?_
                  refine go_drop [0, 1, 2, 3, 4] rfl ?_
                  first
                    | exact K _ _ (by omega) hchk (fun hle => by have := sub_le hchk; omega) hF4b
                    | exact K _ _ hb hWb2 (hkeep hnchk) hF4b
                · have hchk : (∀ i, (wal (vOf bd sk xs ld.1) ld.2 ld.1).testBit i = true → (k).testBit i = true) := (w_all hV hok (show k < 2 ^ vN (vOf bd sk xs ld.1) from hk2)).mp ((zn_eq0 (Nat.lt_of_le_of_lt Nat.and_le_right hov)).mp h166)
                  refine go_iload (pc := 169) dX12_walls_169 rfl ?_
                  refine go_goto 175 (pc := 171) dX12_walls_171 (by decide) ?_
                  refine go_istore_n (i := 3) (pc := 175) dX12_walls_175 rfl (by decide) ?_
                  refine go_drop [0, 1, 2, 3, 4] rfl ?_
                  first
                    | exact K _ _ (by omega) hchk (fun hle => by have := sub_le hchk; omega) hF4b
                    | exact K _ _ hb hWb2 (hkeep hnchk) hF4b
              · first | rw [nI_leI (by omega) (by omega)] at h106 | rw [zi_leN (by omega)] at h106 | rw [zi_Nle (by omega)] at h106 | rw [zi_le] at h106
                refine go_aload_n (i := 0) (pc := 109) dX12_walls_109 rfl rfl ?_
                refine go_getr2 fl_X12_39 (pc := 110) dX12_walls_110 (by rfl) (by rfl) (by rfl) ?_
                refine go_iload (pc := 113) dX12_walls_113 rfl ?_
                refine go_iload (pc := 115) dX12_walls_115 rfl ?_
                refine go_iload (pc := 117) dX12_walls_117 rfl ?_
                refine go_callS ml_X12_114 mt_X12_has (pc := 119) dX12_walls_119 (c_X12_has (by omega) (by omega)) (by decide) (by decide) rfl rfl (Nat.le_of_ble_eq_true rfl) (fun r σ' hp => ?_)
                obtain ⟨rfl, hσ⟩ := hp
                rw [hσ]
                clear hσ
                dsimp only [zRet]
                refine go_if_eq 129 (pc := 122) dX12_walls_122 (by decide) (fun h122 => ?_) (fun h122 => ?_)
                · rw [zb_0] at h122
                  have hbt : ¬ k.testBit i = true := by rw [h122]; decide
                  refine go_aload_n (i := 0) (pc := 129) dX12_walls_129 rfl rfl ?_
                  refine go_getr2 fl_X12_39 (pc := 130) dX12_walls_130 (by rfl) (by rfl) (by rfl) ?_
                  refine go_iload (pc := 133) dX12_walls_133 rfl ?_
                  refine go_iaload _ (pc := 135) dX12_walls_135 (by first | rfl | (apply zM_ar <;> assumption)) (by first | rfl | (apply zM_jn <;> assumption)) rfl (by first | assumption | omega) ?_
                  rw [hR i (by omega), hki]
                  refine go_top (congrArg (fun z => Value.int (nI z)) (show _ = (if k.testBit i = true then 0 else ld.2 i) by first | rw [if_pos hbt] | rw [if_neg hbt])) ?_
                  refine go_iastore i (pc := 136) dX12_walls_136 rfl rfl rfl (by omega) ?_
                  refine go_iincN (pc := 137) dX12_walls_137 rfl (by decide) ?_
                  refine go_goto 100 (pc := 140) dX12_walls_140 (by decide) ?_
                  exact ihi (ld.1 - (i + 1)) (by omega) (i + 1) rfl _ (by omega) (by rw [← wZ_up]; exact hR.up) (hF.uA (by simp))
                · rw [zb_0] at h122
                  have hbt : k.testBit i = true := by simpa using h122
                  refine go_iconst (nI 0) (pc := 125) dX12_walls_125 (by decide) ?_
                  refine go_goto 136 (pc := 126) dX12_walls_126 (by decide) ?_
                  refine go_top (congrArg (fun z => Value.int (nI z)) (show _ = (if k.testBit i = true then 0 else ld.2 i) by first | rw [if_pos hbt] | rw [if_neg hbt])) ?_
                  refine go_iastore i (pc := 136) dX12_walls_136 rfl rfl rfl (by omega) ?_
                  refine go_iincN (pc := 137) dX12_walls_137 rfl (by decide) ?_
                  refine go_goto 100 (pc := 140) dX12_walls_140 (by decide) ?_
                  exact ihi (ld.1 - (i + 1)) (by omega) (i + 1) rfl _ (by omega) (by rw [← wZ_up]; exact hR.up) (hF.uA (by simp))
          refine go_aload_n (i := 0) (pc := 93) dX12_walls_93 rfl rfl ?_
          refine go_callV ml_X12_356 mt_X12_copies (pc := 94) dX12_walls_94 (c_X12_copies (hN.2.2.fr hF (by decide))) (by rfl) rfl (by rfl) (by decide) (by decide) rfl rfl (Nat.le_of_ble_eq_true rfl) (fun r σ' hp => ?_)
          obtain ⟨rfl, hw8, hFc⟩ := hp
          dsimp only [zRet]
          have hF := hF.tr (hFc.mono (by simp) (by simp))
          have hEc := (hC.fr hF (by decide) (by decide)).env
          refine go_iconst (nI 0) (pc := 97) dX12_walls_97 (by decide) ?_
          refine go_istore (pc := 98) dX12_walls_98 (by decide) ?_
          exact inner 0 _ (Nat.zero_le _) (hw8.cg (fun q _ => (if_neg (fun e => absurd e.1 (Nat.not_lt_zero _))).symm)) hF
  have loop : ∀ (k b : Nat) (τ : zT), k ≤ (anN (2 ^ ld.1 - 1) (ld.2 24)) → b < 4096 → (∀ i, (wal (vOf bd sk xs ld.1) ld.2 ld.1).testBit i = true → (b).testBit i = true) → (k < (wal (vOf bd sk xs ld.1) ld.2 ld.1) → b = (wal (vOf bd sk xs ld.1) ld.2 ld.1)) → Fr9 [0, 27, 28] [13, 14, 16, 8] σ τ → GoM E 8 RX12 cX12_walls 6 (some .int) (fun r σ' => r = some (.int (nI (bcn (wal (vOf bd sk xs ld.1) ld.2 ld.1)))) ∧ RefIs σ' tx bd sk tw xs ld pa sh ru (1, ln1 (lN (wal (vOf bd sk xs ld.1) ld.2 ld.1))) ∧ FrG [33] σ σ') τ 67 [(0, .ref (zA E 33 0)), (1, .int (nI (anN (2 ^ ld.1 - 1) (ld.2 24)))), (2, .int (nI (ovB (vOf bd sk xs ld.1) bd.1))), (3, .int (nI b)), (4, .int (nI k))] [] := by
    intro k
    induction k with
    | zero =>
      intro b τ hk hb hWb2 hlow hF
      refine step 0 b τ hk hb hWb2 hlow hF (fun b2 τ2 hb2 hWb3 hl2 hF2 => ?_)
      have e := hl2 (Nat.zero_le _)
      subst e
      refine go_iinc (-1) (pc := 176) dX12_walls_176 rfl (by decide) (by decide) ?_
      refine go_goto 67 (pc := 179) dX12_walls_179 (by decide) ?_
      exact fin τ2 hF2
    | succ k ihk =>
      intro b τ hk hb hWb2 hlow hF
      refine step (k + 1) b τ hk hb hWb2 hlow hF (fun b2 τ2 hb2 hWb3 hl2 hF2 => ?_)
      refine go_iinc (nI k) (pc := 176) dX12_walls_176 rfl (by rw [show Int32.ofInt (-1) = -nI 1 by decide, ← Int32.sub_eq_add_neg, pk_sub (by omega)]; rfl) (by decide) ?_
      refine go_goto 67 (pc := 179) dX12_walls_179 (by decide) ?_
      exact ihk b2 τ2 (by omega) hb2 hWb3 (fun h => hl2 (by omega)) hF2
  have lo1 : ∀ (i : Nat) (τ : zT), i ≤ bd.1 → Fr9 [0, 27, 28] [13, 14, 16, 8] σ τ → GoM E 8 RX12 cX12_walls 6 (some .int) (fun r σ' => r = some (.int (nI (bcn (wal (vOf bd sk xs ld.1) ld.2 ld.1)))) ∧ RefIs σ' tx bd sk tw xs ld pa sh ru (1, ln1 (lN (wal (vOf bd sk xs ld.1) ld.2 ld.1))) ∧ FrG [33] σ σ') τ 28 [(0, .ref (zA E 33 0)), (1, .int (nI (anN (2 ^ ld.1 - 1) (ld.2 24)))), (2, .int (nI (sumN i (fun c => if (decide (vK (vOf bd sk xs ld.1) c < 3)) = true then 2 ^ c else 0)))), (3, .int (nI i))] [] := by
    intro i
    induction hz : bd.1 - i using Nat.strongRecOn generalizing i with
    | ind z ih =>
      intro τ hi hF
      have hBt := (hC.fr hF (by decide) (by decide)).2.2.1
      have hbl := bits_lt (b := fun c => (decide (vK (vOf bd sk xs ld.1) c < 3)) = true) i
      refine go_iload_n (i := 3) (pc := 28) dX12_walls_28 rfl rfl ?_
      refine go_aload_n (i := 0) (pc := 29) dX12_walls_29 rfl rfl ?_
      refine go_geti fl_X12_111 (pc := 30) dX12_walls_30 (by rfl) ?_
      rw [hBt.2.1]
      refine go_icmp_ge 62 (pc := 33) dX12_walls_33 (by decide) (fun h33 => ?_) (fun h33 => ?_)
      · first | rw [nI_leI (by omega) (by omega)] at h33 | rw [zi_leN (by omega)] at h33 | rw [zi_Nle (by omega)] at h33 | rw [zi_le] at h33
        have e : i = bd.1 := by omega
        subst e
        refine go_iload_n (i := 1) (pc := 62) dX12_walls_62 rfl rfl ?_
        refine go_istore_n (i := 3) (pc := 63) dX12_walls_63 rfl (by decide) ?_
        refine go_iload_n (i := 1) (pc := 64) dX12_walls_64 rfl rfl ?_
        refine go_istore (pc := 65) dX12_walls_65 (by decide) ?_
        exact loop (anN (2 ^ ld.1 - 1) (ld.2 24)) (anN (2 ^ ld.1 - 1) (ld.2 24)) τ (Nat.le_refl _) (by omega) hWS (fun h => absurd (sub_le hWS) (by omega)) hF
      · first | rw [nI_leI (by omega) (by omega)] at h33 | rw [zi_leN (by omega)] at h33 | rw [zi_Nle (by omega)] at h33 | rw [zi_le] at h33
        refine go_iload_n (i := 2) (pc := 36) dX12_walls_36 rfl rfl ?_
        refine go_aload_n (i := 0) (pc := 37) dX12_walls_37 rfl rfl ?_
        refine go_getr2 fl_X12_24 (pc := 38) dX12_walls_38 (by rfl) (by rfl) (by rfl) ?_
        refine go_iload_n (i := 3) (pc := 41) dX12_walls_41 rfl rfl ?_
        refine go_iaload _ (pc := 42) dX12_walls_42 (by first | rfl | (apply zM_ar <;> assumption)) (by first | rfl | (apply zM_jn <;> assumption)) rfl (by first | assumption | omega) ?_
        rw [(hBt.2.2 i (by omega)).1, show bd.2.1 i = vK (vOf bd sk xs ld.1) i from rfl]
        have hk4 : vK (vOf bd sk xs ld.1) i ≤ 4 := (hBt.2.2 i (by omega)).2.2.1
        refine go_iconst (nI 3) (pc := 43) dX12_walls_43 (by decide) ?_
        refine go_icmp_ge 53 (pc := 44) dX12_walls_44 (by decide) (fun h44 => ?_) (fun h44 => ?_)
        · first | rw [nI_leI (by omega) (by omega)] at h44 | rw [zi_leN (by omega)] at h44 | rw [zi_Nle (by omega)] at h44 | rw [zi_le] at h44
          have es : sumN (i + 1) (fun c => if (decide (vK (vOf bd sk xs ld.1) c < 3)) = true then 2 ^ c else 0) = sumN i (fun c => if (decide (vK (vOf bd sk xs ld.1) c < 3)) = true then 2 ^ c else 0) := by rw [sumN, if_neg (by simp; omega), Nat.add_zero]
          refine go_iconst (nI 0) (pc := 53) dX12_walls_53 (by decide) ?_
          refine go_ior (pc := 54) dX12_walls_54 ?_
          first | rw [zor2 hbl (by omega)] | rw [zorN, Nat.or_zero]
          refine go_istore_n (i := 2) (pc := 55) dX12_walls_55 rfl (by decide) ?_
          refine go_iincN (pc := 56) dX12_walls_56 rfl (by decide) ?_
          refine go_goto 28 (pc := 59) dX12_walls_59 (by decide) ?_
          rw [← es]
          exact ih (bd.1 - (i + 1)) (by omega) (i + 1) rfl _ (by omega) hF
        · first | rw [nI_leI (by omega) (by omega)] at h44 | rw [zi_leN (by omega)] at h44 | rw [zi_Nle (by omega)] at h44 | rw [zi_le] at h44
          have es : sumN (i + 1) (fun c => if (decide (vK (vOf bd sk xs ld.1) c < 3)) = true then 2 ^ c else 0) = sumN i (fun c => if (decide (vK (vOf bd sk xs ld.1) c < 3)) = true then 2 ^ c else 0) + 2 ^ i := by rw [sumN, if_pos (by simp; omega)]
          refine go_iconst (nI 1) (pc := 47) dX12_walls_47 (by decide) ?_
          refine go_iload_n (i := 3) (pc := 48) dX12_walls_48 rfl rfl ?_
          refine go_ishl (pc := 49) dX12_walls_49 ?_
          refine go_goto 54 (pc := 50) dX12_walls_50 (by decide) ?_
          refine go_ior (pc := 54) dX12_walls_54 ?_
          first | rw [zor2 hbl (by omega)] | rw [zorN, Nat.or_zero]
          refine go_istore_n (i := 2) (pc := 55) dX12_walls_55 rfl (by decide) ?_
          refine go_iincN (pc := 56) dX12_walls_56 rfl (by decide) ?_
          refine go_goto 28 (pc := 59) dX12_walls_59 (by decide) ?_
          rw [← es]
          exact ih (bd.1 - (i + 1)) (by omega) (i + 1) rfl _ (by omega) hF
  refine go_aload_n (i := 0) (pc := 0) dX12_walls_0 rfl rfl ?_
  refine go_iconst (nI 0) (pc := 1) dX12_walls_1 (by decide) ?_
  refine go_puti fp_X12_97 (pc := 2) dX12_walls_2 (by rfl) rfl rfl ?_
  have hF : Fr9 [0, 27, 28] [13, 14, 16, 8] σ (uS σ 33 0 (nI 0)) := Fr9.rf.uS (by simp)
  have hNt := (hC.fr hF (by decide) (by decide)).2.2.2.2.2.1
  refine go_iconst (nI 1) (pc := 5) dX12_walls_5 (by decide) ?_
  refine go_aload_n (i := 0) (pc := 6) dX12_walls_6 rfl rfl ?_
  refine go_geti fl_X12_13 (pc := 7) dX12_walls_7 (by rfl) ?_
  rw [hNt.1]
  refine go_ishl (pc := 10) dX12_walls_10 ?_
  rw [zshlP ld.1 hn.2]
  refine go_iconst (nI 1) (pc := 11) dX12_walls_11 (by decide) ?_
  refine go_isubN (pc := 12) dX12_walls_12 (by omega) ?_
  refine go_aload_n (i := 0) (pc := 13) dX12_walls_13 rfl rfl ?_
  refine go_getr2 fl_X12_36 (pc := 14) dX12_walls_14 (by rfl) (by rfl) (by rfl) ?_
  refine go_bipush (nI 24) (pc := 17) dX12_walls_17 (by decide) ?_
  refine go_iaload _ (pc := 19) dX12_walls_19 (by first | rfl | (apply zM_ar <;> assumption)) (by first | rfl | (apply zM_jn <;> assumption)) rfl (by first | assumption | omega) ?_
  rw [hNt.2.2 24 (by decide)]
  refine go_iconst (-1) (pc := 20) dX12_walls_20 (by decide) ?_
  refine go_ixor (pc := 21) dX12_walls_21 ?_
  refine go_iand (pc := 22) dX12_walls_22 ?_
  rw [zandnot hF4]
  refine go_istore_n (i := 1) (pc := 23) dX12_walls_23 rfl (by decide) ?_
  refine go_iconst (nI 0) (pc := 24) dX12_walls_24 (by decide) ?_
  refine go_istore_n (i := 2) (pc := 25) dX12_walls_25 rfl (by decide) ?_
  refine go_iconst (nI 0) (pc := 26) dX12_walls_26 (by decide) ?_
  refine go_istore_n (i := 3) (pc := 27) dX12_walls_27 rfl (by decide) ?_
  exact lo1 0 _ (Nat.zero_le _) hF

