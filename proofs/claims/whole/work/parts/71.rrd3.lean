/-! carriers and mouths: items with ';' between them -/
def cLn (f : Nat → Nat) (lim p : Nat) : Bool × Nat × Nat × Nat := if ¬ (p < lim ∧ 48 + 0 ≤ f p ∧ f p ≤ 48 + 4) then (false, p, 0, 0) else if ¬ (p + 1 < lim ∧ 48 + 1 ≤ f (p + 1) ∧ f (p + 1) ≤ 48 + 9) then (false, p + 1, 0, 0) else (true, p + 2, f p - 48, f (p + 1) - 48)
theorem cLn_b {f : Nat → Nat} {lim p : Nat} (hp : p ≤ lim) : (cLn f lim p).2.1 ≤ lim := by
  unfold cLn
  split
  · exact hp
  · split
    · show p + 1 ≤ lim; omega
    · show p + 2 ≤ lim; omega
def mR (one : Nat → Bool × Nat × Nat × Nat) (f : Nat → Nat) (lim : Nat) : Nat → Nat → Nat → Bool × Nat × Nat
  | 0, s, p => (false, p, s)
  | k + 1, s, p => if (one p).1 = false then (false, (one p).2.1, s) else if (one p).2.1 < lim ∧ f (one p).2.1 = 59 then mR one f lim k (s + 1) ((one p).2.1 + 1) else (true, (one p).2.1, s + 1)
def gPos (one : Nat → Bool × Nat × Nat × Nat) : Nat → Nat
  | 0 => 0
  | j + 1 => (one (gPos one j)).2.1 + 1
theorem mR_b {one : Nat → Bool × Nat × Nat × Nat} {f : Nat → Nat} {lim : Nat} (hone : ∀ p, p ≤ lim → (one p).2.1 ≤ lim) : ∀ k s p, p ≤ lim → (mR one f lim k s p).2.1 ≤ lim ∧ ((mR one f lim k s p).1 = true → (mR one f lim k s p).2.1 = lim ∨ f (mR one f lim k s p).2.1 ≠ 59) ∧ s ≤ (mR one f lim k s p).2.2 ∧ (mR one f lim k s p).2.2 ≤ s + k
  | 0, s, p, hp => ⟨hp, fun h => (by cases h), Nat.le_refl _, Nat.le_refl _⟩
  | k + 1, s, p, hp => by
    have h1 := hone p hp
    rw [mR]
    by_cases h : (one p).1 = false
    · rw [if_pos h]; exact ⟨h1, fun h => (by cases h), Nat.le_refl _, by dsimp only; omega⟩
    · rw [if_neg h]
      by_cases h2 : (one p).2.1 < lim ∧ f (one p).2.1 = 59
      · rw [if_pos h2]
        obtain ⟨a, b, c, d⟩ := mR_b (f := f) hone k (s + 1) ((one p).2.1 + 1) (by omega)
        exact ⟨a, b, by omega, by omega⟩
      · rw [if_neg h2]
        refine ⟨h1, fun _ => ?_, by dsimp only; omega, by dsimp only; omega⟩
        dsimp only
        by_cases e : (one p).2.1 = lim
        · exact Or.inl e
        · exact Or.inr (fun q => h2 ⟨by omega, q⟩)
theorem faO_neg {n most a lim : Nat} {b : Bool} (ha : a < 2 ^ 30) (hm : most < 2 ^ 30) : (faO n most b a lim).toInt < 0 ↔ ¬ (n ≤ most ∧ b = true ∧ a = lim) := by
  unfold faO
  by_cases h : most < n ∧ ((b = true ∧ a = lim) ∨ most ≤ a)
  · rw [if_pos h]
    exact ⟨fun _ q => by omega, fun _ => mF_nn hm⟩
  · rw [if_neg h]
    by_cases h2 : b = true ∧ a = lim
    · rw [if_pos h2]
      refine ⟨fun q => absurd q (by decide), fun q => absurd ⟨?_, h2⟩ q⟩
      apply Classical.byContradiction
      intro hn
      exact h ⟨by omega, Or.inl h2⟩
    · rw [if_neg h2]
      exact ⟨fun _ q => h2 q.2, fun _ => mF_nn ha⟩
/-- mouths: the class's way -/
theorem mou_mR {f : Nat → Nat} {L lim : Nat} (hlim : lim = min L 47) : ∀ k s p, p ≤ lim → (match (mouR f lim (decide (47 < L)) k s p).1 with | none => nI 0 | some q => mF q) = faO L 47 (mR (mLn f lim) f lim k s p).1 (mR (mLn f lim) f lim k s p).2.1 lim ∧ ((mouR f lim (decide (47 < L)) k s p).1 = none → (mouR f lim (decide (47 < L)) k s p).2 = (mR (mLn f lim) f lim k s p).2.2) ∧ ((mouR f lim (decide (47 < L)) k s p).1 = none ↔ (L ≤ 47 ∧ (mR (mLn f lim) f lim k s p).1 = true ∧ (mR (mLn f lim) f lim k s p).2.1 = lim))
  | 0, s, p, hp => by
    refine ⟨?_, fun h => (by cases h), ⟨fun h => (by cases h), fun h => absurd h.2.1 (by show ¬ false = true; decide)⟩⟩
    show mF p = faO L 47 false p lim
    unfold faO
    by_cases h : 47 < L ∧ ((false = true ∧ p = lim) ∨ 47 ≤ p)
    · rw [if_pos h, show p = 47 by omega]
    · rw [if_neg h, if_neg (fun q => absurd q.1 (by decide))]
  | k + 1, s, p, hp => by
    have h1 := (mLn_b (f := f) hp).1
    rw [mouR, mR]
    by_cases h : (mLn f lim p).1 = false
    · rw [if_pos h, if_pos h]
      refine ⟨?_, fun h => (by cases h), ⟨fun h => (by cases h), fun h => absurd h.2.1 (by show ¬ false = true; decide)⟩⟩
      dsimp only
      unfold faO
      by_cases h2 : 47 < L ∧ ((false = true ∧ (mLn f lim p).2.1 = lim) ∨ 47 ≤ (mLn f lim p).2.1)
      · rw [if_pos h2, show (mLn f lim p).2.1 = 47 by rcases h2.2 with q | q; exact absurd q.1 (by decide); omega]
      · rw [if_neg h2, if_neg (fun q => absurd q.1 (by decide))]
    · rw [if_neg h, if_neg h]
      by_cases h2 : (mLn f lim p).2.1 < lim ∧ f (mLn f lim p).2.1 = 59
      · rw [if_pos h2, if_neg (fun q => by omega), if_neg (fun q => by omega)]
        exact mou_mR hlim k (s + 1) _ (by omega)
      · rw [if_neg h2]
        dsimp only
        by_cases h3 : lim ≤ (mLn f lim p).2.1 ∧ decide (47 < L) = false
        · rw [if_pos h3]
          have h4 : ¬ 47 < L := by simpa using h3.2
          have h5 : (mLn f lim p).2.1 = lim := by omega
          refine ⟨?_, fun _ => rfl, ⟨fun _ => ⟨by omega, rfl, h5⟩, fun _ => rfl⟩⟩
          dsimp only
          unfold faO
          rw [if_neg (fun q => h4 q.1), if_pos ⟨rfl, h5⟩]
        · rw [if_neg h3, if_pos (show lim ≤ (mLn f lim p).2.1 ∨ f (mLn f lim p).2.1 ≠ 59 by
            by_cases q : f (mLn f lim p).2.1 = 59
            · exact Or.inl (by omega)
            · exact Or.inr q)]
          refine ⟨?_, fun h => (by cases h), ⟨fun h => (by cases h), fun h => ?_⟩⟩
          · dsimp only
            unfold faO
            by_cases h4 : lim ≤ (mLn f lim p).2.1
            · have h5 : 47 < L := by
                apply Classical.byContradiction
                intro q
                exact h3 ⟨h4, decide_eq_false q⟩
              rw [if_pos ⟨h5, Or.inr (by omega)⟩, show (mLn f lim p).2.1 = 47 by omega]
            · rw [if_neg (fun q => by omega), if_neg (fun q => by omega)]
          · exfalso
            exact h3 ⟨by omega, decide_eq_false (by omega)⟩
/-- carriers: the class's way -/
theorem car_mR {f : Nat → Nat} {nc L lim : Nat} (hlim : lim = min L 23) (hL : L ≠ 0) : ∀ k s, nc + s + k = 8 → 3 * s ≤ lim → rlU (okC nc f) (3 * s) = 3 * s → (match carF nc L f with | none => nI 0 | some q => mF q) = faO L 23 (mR (cLn f lim) f lim k s (3 * s)).1 (mR (cLn f lim) f lim k s (3 * s)).2.1 lim ∧ (carF nc L f = none → (L + 1) / 3 = (mR (cLn f lim) f lim k s (3 * s)).2.2) ∧ (carF nc L f = none ↔ (L ≤ 23 ∧ (mR (cLn f lim) f lim k s (3 * s)).1 = true ∧ (mR (cLn f lim) f lim k s (3 * s)).2.1 = lim)) := by
  have hmin : min L 23 = lim := hlim.symm
  have ok0 : ∀ s, okC nc f (3 * s) = (decide (nc + s < 8) && decide (48 ≤ f (3 * s) ∧ f (3 * s) ≤ 52)) := fun s => by
    unfold okC bOK
    rw [show 3 * s % 3 = 0 by omega, show 3 * s / 3 = s by omega, if_neg (by decide), if_pos rfl]
  have ok1 : ∀ s, okC nc f (3 * s + 1) = (decide (nc + s < 8) && decide (49 ≤ f (3 * s + 1) ∧ f (3 * s + 1) ≤ 57)) := fun s => by
    unfold okC bOK
    rw [show (3 * s + 1) % 3 = 1 by omega, show (3 * s + 1) / 3 = s by omega, if_neg (by decide), if_neg (by decide)]
  have ok2 : ∀ s, okC nc f (3 * s + 2) = decide (f (3 * s + 2) = 59) := fun s => by
    unfold okC bOK
    rw [show (3 * s + 2) % 3 = 2 by omega, if_pos rfl]
  /- where reading ends without an item -/
  have stop : ∀ r, r ≤ lim → rlU (okC nc f) lim = r → r % 3 ≠ 2 → ∀ c : Nat, (match carF nc L f with | none => nI 0 | some q => mF q) = faO L 23 false r lim ∧ (carF nc L f = none → (L + 1) / 3 = c) ∧ (carF nc L f = none ↔ (L ≤ 23 ∧ false = true ∧ r = lim)) := by
    intro r hr hrl h3 c
    have e : carF nc L f = some r := by
      unfold carF
      rw [hmin, hrl]
      by_cases h : r < lim
      · rw [if_pos h]
      · rw [if_neg h, show r = lim by omega, if_pos ⟨hL, Or.inr (by omega)⟩]
    rw [e]
    refine ⟨?_, fun h => (by cases h), ⟨fun h => (by cases h), fun h => absurd h.2.1 (by decide)⟩⟩
    dsimp only
    unfold faO
    by_cases h : 23 < L ∧ ((false = true ∧ r = lim) ∨ 23 ≤ r)
    · rw [if_pos h, show r = 23 by rcases h.2 with q | q; exact absurd q.1 (by decide); omega]
    · rw [if_neg h, if_neg (fun q => absurd q.1 (by decide))]
  intro k
  induction k with
  | zero =>
    intro s hs hp hrl
    have hb : okC nc f (3 * s) = false := by rw [ok0, decide_eq_false (by omega)]; rfl
    refine stop (3 * s) hp ?_ (by omega) _
    by_cases h : 3 * s < lim
    · exact rlU_badN hrl hb h
    · rw [show lim = 3 * s by omega]; exact hrl
  | succ k ih =>
    intro s hs hp hrl
    rw [mR]
    by_cases h1 : 3 * s < lim ∧ 48 + 0 ≤ f (3 * s) ∧ f (3 * s) ≤ 48 + 4
    · have hb0 : okC nc f (3 * s) = true := by rw [ok0, decide_eq_true (by omega), decide_eq_true (by omega)]; rfl
      have hrl1 := rlU_s hrl hb0
      by_cases h2 : 3 * s + 1 < lim ∧ 48 + 1 ≤ f (3 * s + 1) ∧ f (3 * s + 1) ≤ 48 + 9
      · have e : cLn f lim (3 * s) = (true, 3 * s + 2, f (3 * s) - 48, f (3 * s + 1) - 48) := by unfold cLn; rw [if_neg (fun q => q h1), if_neg (fun q => q h2)]
        have hb1 : okC nc f (3 * s + 1) = true := by rw [ok1, decide_eq_true (by omega), decide_eq_true (by omega)]; rfl
        have hrl2 := rlU_s hrl1 hb1
        rw [e, if_neg (show ¬ true = false by decide)]
        dsimp only
        by_cases h3 : 3 * s + 2 < lim ∧ f (3 * s + 2) = 59
        · rw [if_pos h3]
          have hb2 : okC nc f (3 * s + 2) = true := by rw [ok2, decide_eq_true h3.2]
          have hrl3 := rlU_s hrl2 hb2
          have := ih (s + 1) (by omega) (by omega) (by rw [show 3 * (s + 1) = 3 * s + 2 + 1 by omega]; exact hrl3)
          rw [show 3 * (s + 1) = 3 * s + 2 + 1 by omega] at this
          exact this
        · rw [if_neg h3]
          by_cases h4 : 3 * s + 2 < lim
          · have hb2 : okC nc f (3 * s + 2) = false := by rw [ok2, decide_eq_false (fun q => h3 ⟨h4, q⟩)]
            have hr := rlU_badN hrl2 hb2 h4
            have e2 : carF nc L f = some (3 * s + 2) := by unfold carF; rw [hmin, hr, if_pos h4]
            rw [e2]
            refine ⟨?_, fun h => (by cases h), ⟨fun h => (by cases h), fun h => absurd h.2.2 (by dsimp only; omega)⟩⟩
            dsimp only
            unfold faO
            rw [if_neg (fun q => by omega), if_neg (fun q => by omega)]
          · have hr : rlU (okC nc f) lim = lim := by rw [show lim = 3 * s + 1 + 1 by omega]; exact hrl2
            by_cases h5 : 23 < L
            · have e2 : carF nc L f = some lim := by unfold carF; rw [hmin, hr, if_neg (by omega), if_pos ⟨hL, Or.inl h5⟩]
              rw [e2]
              refine ⟨?_, fun h => (by cases h), ⟨fun h => (by cases h), fun h => absurd h.1 (by omega)⟩⟩
              dsimp only
              unfold faO
              rw [if_pos ⟨h5, Or.inr (by omega)⟩, show lim = 23 by omega]
            · have e2 : carF nc L f = none := by unfold carF; rw [hmin, hr, if_neg (by omega), if_neg (fun q => by omega)]
              rw [e2]
              refine ⟨?_, fun _ => by dsimp only; omega, ⟨fun _ => ⟨by omega, rfl, by dsimp only; omega⟩, fun _ => rfl⟩⟩
              dsimp only
              unfold faO
              rw [if_neg (fun q => h5 q.1), if_pos ⟨rfl, by omega⟩]
      · have e : cLn f lim (3 * s) = (false, 3 * s + 1, 0, 0) := by unfold cLn; rw [if_neg (fun q => q h1), if_pos h2]
        rw [e, if_pos rfl]
        refine stop (3 * s + 1) (by omega) ?_ (by omega) _
        by_cases h3 : 3 * s + 1 < lim
        · refine rlU_badN hrl1 ?_ h3
          rw [ok1, decide_eq_false (show ¬ (49 ≤ f (3 * s + 1) ∧ f (3 * s + 1) ≤ 57) by omega), Bool.and_false]
        · rw [show lim = 3 * s + 1 by omega]; exact hrl1
    · have e : cLn f lim (3 * s) = (false, 3 * s, 0, 0) := by unfold cLn; rw [if_pos h1]
      rw [e, if_pos rfl]
      refine stop (3 * s) hp ?_ (by omega) _
      by_cases h3 : 3 * s < lim
      · refine rlU_badN hrl ?_ h3
        rw [ok0, decide_eq_false (show ¬ (48 ≤ f (3 * s) ∧ f (3 * s) ≤ 52) by omega), Bool.and_false]
      · rw [show lim = 3 * s by omega]; exact hrl
theorem gPos_car {f : Nat → Nat} {lim : Nat} : ∀ s, (∀ j, j < s → (cLn f lim (gPos (cLn f lim) j)).1 = true) → gPos (cLn f lim) s = 3 * s
  | 0, _ => rfl
  | s + 1, h => by
    have ih := gPos_car (f := f) (lim := lim) s (fun j hj => h j (by omega))
    have hs := h s (by omega)
    rw [gPos]
    rw [ih] at hs ⊢
    unfold cLn at hs ⊢
    split at hs
    · cases hs
    · split at hs
      · cases hs
      · rename_i h1 h2
        rw [if_neg h1, if_neg h2]
        show 3 * s + 2 + 1 = 3 * (s + 1)
        omega

theorem c_rcFull {E : zE} {σ : zT} {f : Nat → Nat} {p lim nc s : Nat} (hK : Cur σ f p lim) (h4 : σ.1 33 4 = nI nc) (h20 : σ.1 33 20 = nI s) (h8 : nc + s = 8) : CalM E 2 yX12_readsCarrier cX12_readsCarrier 2 (some .boolean) [.ref (zA E 33 0)] σ (fun r σ' => r = some (.int (nI 0)) ∧ σ' = σ) := by
  refine cal_of_go (own := RX12) rfl (by decide +kernel) (Nat.le_of_ble_eq_true rfl) ?_
  refine go_aload_n (i := 0) (pc := 0) dX12_readsCarrier_0 rfl rfl ?_
  refine go_geti fl_X12_111 (pc := 1) dX12_readsCarrier_1 (by rfl) ?_
  rw [h4]
  refine go_aload_n (i := 0) (pc := 4) dX12_readsCarrier_4 rfl rfl ?_
  refine go_geti fl_X12_169 (pc := 5) dX12_readsCarrier_5 (by rfl) ?_
  rw [h20]
  first | with_reducible refine go_iaddN (pc := 8) dX12_readsCarrier_8 ?_ | refine go_iadd (pc := 8) dX12_readsCarrier_8 ?_
  refine go_bipush (nI 8) (pc := 9) dX12_readsCarrier_9 (by decide) ?_
  refine go_icmp_ne 16 (pc := 11) dX12_readsCarrier_11 (by decide) (fun h11 => ?_) (fun h11 => ?_)
  · first | rw [nI_eq (by omega) (by omega)] at h11 | rw [zi_eqN (by omega)] at h11 | rw [zi_Neq (by omega)] at h11 | rw [zi_eq] at h11
    exfalso; omega
  · first | rw [nI_eq (by omega) (by omega)] at h11 | rw [zi_eqN (by omega)] at h11 | rw [zi_Neq (by omega)] at h11 | rw [zi_eq] at h11
    refine go_iconst (nI 0) (pc := 14) dX12_readsCarrier_14 (by decide) ?_
    refine go_zreturn (pc := 15) dX12_readsCarrier_15 rfl (by first | rfl | (apply zb_nar)) ?_
    exact ⟨rfl, rfl⟩

theorem c_rsFull {E : zE} {σ : zT} {f : Nat → Nat} {p lim nc s : Nat} (hK : Cur σ f p lim) (h4 : σ.1 33 5 = nI nc) (h20 : σ.1 33 20 = nI s) (h8 : nc + s = 8) : CalM E 3 yX12_readsSort cX12_readsSort 2 (some .boolean) [.ref (zA E 33 0)] σ (fun r σ' => r = some (.int (nI 0)) ∧ σ' = σ) := by
  refine cal_of_go (own := RX12) rfl (by decide +kernel) (Nat.le_of_ble_eq_true rfl) ?_
  refine go_aload_n (i := 0) (pc := 0) dX12_readsSort_0 rfl rfl ?_
  refine go_geti fl_X12_200 (pc := 1) dX12_readsSort_1 (by rfl) ?_
  rw [h4]
  refine go_aload_n (i := 0) (pc := 4) dX12_readsSort_4 rfl rfl ?_
  refine go_geti fl_X12_169 (pc := 5) dX12_readsSort_5 (by rfl) ?_
  rw [h20]
  first | with_reducible refine go_iaddN (pc := 8) dX12_readsSort_8 ?_ | refine go_iadd (pc := 8) dX12_readsSort_8 ?_
  refine go_bipush (nI 8) (pc := 9) dX12_readsSort_9 (by decide) ?_
  refine go_icmp_ne 16 (pc := 11) dX12_readsSort_11 (by decide) (fun h11 => ?_) (fun h11 => ?_)
  · first | rw [nI_eq (by omega) (by omega)] at h11 | rw [zi_eqN (by omega)] at h11 | rw [zi_Neq (by omega)] at h11 | rw [zi_eq] at h11
    exfalso; omega
  · first | rw [nI_eq (by omega) (by omega)] at h11 | rw [zi_eqN (by omega)] at h11 | rw [zi_Neq (by omega)] at h11 | rw [zi_eq] at h11
    refine go_iconst (nI 0) (pc := 14) dX12_readsSort_14 (by decide) ?_
    refine go_zreturn (pc := 15) dX12_readsSort_15 rfl (by first | rfl | (apply zb_nar)) ?_
    exact ⟨rfl, rfl⟩

theorem c_X12_readsCarrier {E : zE} {σ : zT} {f : Nat → Nat} {p lim nc s : Nat} (hK : Cur σ f p lim) (h4 : σ.1 33 4 = nI nc) (h20 : σ.1 33 20 = nI s) (h8 : nc + s < 8) : CalM E 2 yX12_readsCarrier cX12_readsCarrier 2 (some .boolean) [.ref (zA E 33 0)] σ (fun r σ' => r = some (.int (zb (cLn f lim p).1)) ∧ Cur σ' f (cLn f lim p).2.1 lim ∧ ((cLn f lim p).1 = true → σ'.1 33 20 = nI (s + 1) ∧ σ'.2.1 33 10 (2 * s) = nI (cLn f lim p).2.2.1 ∧ σ'.2.1 33 10 (2 * s + 1) = nI (cLn f lim p).2.2.2) ∧ (∀ j, j < 2 * s → σ'.2.1 33 10 j = σ.2.1 33 10 j) ∧ Fr9 [16, 20] [10] σ σ') := by
  refine cal_of_go (own := RX12) rfl (by decide +kernel) (Nat.le_of_ble_eq_true rfl) ?_
  have hfb := fun i (h : i < 80) => (hK.2.2.2.2 i h).2
  have hl80 := hK.2.2.2.1
  by_cases hd1 : p < lim ∧ 48 + 0 ≤ f p ∧ f p ≤ 48 + 4
  · have hf1 := hfb p (by omega)
    by_cases hd2 : p + 1 < lim ∧ 48 + 1 ≤ f (p + 1) ∧ f (p + 1) ≤ 48 + 9
    · have hf2 := hfb (p + 1) (by omega)
      have ec : cLn f lim p = (true, p + 2, f p - 48, f (p + 1) - 48) := by unfold cLn; rw [if_neg (fun q => q hd1), if_neg (fun q => q hd2)]
      refine go_aload_n (i := 0) (pc := 0) dX12_readsCarrier_0 rfl rfl ?_
      refine go_geti fl_X12_111 (pc := 1) dX12_readsCarrier_1 (by rfl) ?_
      rw [h4]
      refine go_aload_n (i := 0) (pc := 4) dX12_readsCarrier_4 rfl rfl ?_
      refine go_geti fl_X12_169 (pc := 5) dX12_readsCarrier_5 (by rfl) ?_
      rw [h20]
      first | with_reducible refine go_iaddN (pc := 8) dX12_readsCarrier_8 ?_ | refine go_iadd (pc := 8) dX12_readsCarrier_8 ?_
      refine go_bipush (nI 8) (pc := 9) dX12_readsCarrier_9 (by decide) ?_
      refine go_icmp_ne 16 (pc := 11) dX12_readsCarrier_11 (by decide) (fun h11 => ?_) (fun h11 => ?_)
      · first | rw [nI_eq (by omega) (by omega)] at h11 | rw [zi_eqN (by omega)] at h11 | rw [zi_Neq (by omega)] at h11 | rw [zi_eq] at h11
        refine go_iconst (nI 2) (pc := 16) dX12_readsCarrier_16 (by decide) ?_
        refine go_aload_n (i := 0) (pc := 17) dX12_readsCarrier_17 rfl rfl ?_
        refine go_geti fl_X12_169 (pc := 18) dX12_readsCarrier_18 (by rfl) ?_
        rw [h20]
        first | with_reducible refine go_imulN (pc := 21) dX12_readsCarrier_21 ?_ | refine go_imul (pc := 21) dX12_readsCarrier_21 ?_
        refine go_istore_n (i := 1) (pc := 22) dX12_readsCarrier_22 rfl (by decide) ?_
        refine go_aload_n (i := 0) (pc := 23) dX12_readsCarrier_23 rfl rfl ?_
        refine go_getr2 fl_X12_45 (pc := 24) dX12_readsCarrier_24 (by rfl) (by rfl) (by rfl) ?_
        refine go_iload_n (i := 1) (pc := 27) dX12_readsCarrier_27 rfl rfl ?_
        refine go_aload_n (i := 0) (pc := 28) dX12_readsCarrier_28 rfl rfl ?_
        refine go_iconst (nI 0) (pc := 29) dX12_readsCarrier_29 (by decide) ?_
        refine go_iconst (nI 4) (pc := 30) dX12_readsCarrier_30 (by decide) ?_
        refine go_callV ml_X12_186 mt_X12_digitIn (pc := 31) dX12_readsCarrier_31 (c_X12_digitIn (lo := 0) (hi := 4) hK (by decide) (by decide)) (by rfl) rfl (by rfl) (by decide) (by decide) rfl rfl (Nat.le_of_ble_eq_true rfl) (fun r σ' hp => ?_)
        obtain ⟨rfl, hK2, hFd⟩ := hp
        dsimp only [zRet]
        rw [if_pos hd1] at hK2 ⊢
        refine go_iastore (2 * s) (pc := 34) dX12_readsCarrier_34 rfl rfl rfl (by omega) ?_
        have hF1 : Fr9 [16, 20] [10] σ (uA σ' 33 10 (upd (σ'.2.1 33 10) (2 * s) (nI (f p - 48)))) := (hFd.mono (by simp) (by simp)).uA (by simp)
        have hK1 : Cur (uA σ' 33 10 (upd (σ'.2.1 33 10) (2 * s) (nI (f p - 48)))) f _ lim := hK2.fr (fs := []) (js := [10]) (Fr9.rf.uA (by simp)) (by decide) (by decide) (by decide)
        have h201 : (uA σ' 33 10 (upd (σ'.2.1 33 10) (2 * s) (nI (f p - 48)))).1 33 20 = nI s := by rw [uA_1, hFd.2.1 _ (by decide)]; exact h20
        have hr1 : (uA σ' 33 10 (upd (σ'.2.1 33 10) (2 * s) (nI (f p - 48)))).2.1 33 10 (2 * s) = (nI (f p - 48)) := by rw [uA_s, upd_at, if_pos rfl]
        have hlo1 : ∀ j, j < 2 * s → (uA σ' 33 10 (upd (σ'.2.1 33 10) (2 * s) (nI (f p - 48)))).2.1 33 10 j = σ.2.1 33 10 j := fun j hj => by rw [uA_s, upd_at, if_neg (by omega), hFd.2.2.1 10 (by decide)]
        generalize uA σ' 33 10 (upd (σ'.2.1 33 10) (2 * s) (nI (f p - 48))) = τ1 at hF1 hK1 h201 hr1 hlo1 ⊢
        refine go_aload_n (i := 0) (pc := 35) dX12_readsCarrier_35 rfl rfl ?_
        refine go_getr2 fl_X12_45 (pc := 36) dX12_readsCarrier_36 (by rfl) (by rfl) (by rfl) ?_
        refine go_iload_n (i := 1) (pc := 39) dX12_readsCarrier_39 rfl rfl ?_
        refine go_iconst (nI 1) (pc := 40) dX12_readsCarrier_40 (by decide) ?_
        first | with_reducible refine go_iaddN (pc := 41) dX12_readsCarrier_41 ?_ | refine go_iadd (pc := 41) dX12_readsCarrier_41 ?_
        refine go_aload_n (i := 0) (pc := 42) dX12_readsCarrier_42 rfl rfl ?_
        refine go_getr2 fl_X12_45 (pc := 43) dX12_readsCarrier_43 (by rfl) (by rfl) (by rfl) ?_
        refine go_iload_n (i := 1) (pc := 46) dX12_readsCarrier_46 rfl rfl ?_
        refine go_iaload _ (pc := 47) dX12_readsCarrier_47 (by first | rfl | (apply zM_ar <;> assumption)) (by first | rfl | (apply zM_jn <;> assumption)) rfl (by first | assumption | omega) ?_
        rw [hr1]
        refine go_if_ge 55 (pc := 48) dX12_readsCarrier_48 (by decide) (fun h48 => ?_) (fun h48 => ?_)
        · refine go_aload_n (i := 0) (pc := 55) dX12_readsCarrier_55 rfl rfl ?_
          refine go_iconst (nI 1) (pc := 56) dX12_readsCarrier_56 (by decide) ?_
          refine go_bipush (nI 9) (pc := 57) dX12_readsCarrier_57 (by decide) ?_
          refine go_callV ml_X12_186 mt_X12_digitIn (pc := 59) dX12_readsCarrier_59 (c_X12_digitIn (lo := 1) (hi := 9) hK1 (by decide) (by decide)) (by rfl) rfl (by rfl) (by decide) (by decide) rfl rfl (Nat.le_of_ble_eq_true rfl) (fun r σ' hp => ?_)
          obtain ⟨rfl, hK2, hFe⟩ := hp
          dsimp only [zRet]
          rw [if_pos hd2] at hK2 ⊢
          have hF1b := hF1.tr (hFe.mono (by simp) (by simp))
          have h201b : σ'.1 33 20 = nI s := by rw [hFe.2.1 _ (by decide)]; exact h201
          have hr1c : σ'.2.1 33 10 (2 * s) = (nI (f p - 48)) := (by rw [hFe.2.2.1 10 (by decide)]; exact hr1)
          have hlo1b : ∀ j, j < 2 * s → σ'.2.1 33 10 j = σ.2.1 33 10 j := fun j hj => by rw [hFe.2.2.1 10 (by decide)]; exact hlo1 j hj
          refine go_iastore (2 * s + 1) (pc := 62) dX12_readsCarrier_62 rfl rfl rfl (by omega) ?_
          have hF2 : Fr9 [16, 20] [10] σ (uA σ' 33 10 (upd (σ'.2.1 33 10) (2 * s + 1) (nI (f (p + 1) - 48)))) := (hF1b).uA (by simp)
          have hK3 : Cur (uA σ' 33 10 (upd (σ'.2.1 33 10) (2 * s + 1) (nI (f (p + 1) - 48)))) f _ lim := (hK2).fr (fs := []) (js := [10]) (Fr9.rf.uA (by simp)) (by decide) (by decide) (by decide)
          have h203 : (uA σ' 33 10 (upd (σ'.2.1 33 10) (2 * s + 1) (nI (f (p + 1) - 48)))).1 33 20 = nI s := h201b
          have hr2 : (uA σ' 33 10 (upd (σ'.2.1 33 10) (2 * s + 1) (nI (f (p + 1) - 48)))).2.1 33 10 (2 * s + 1) = (nI (f (p + 1) - 48)) := by rw [uA_s, upd_at, if_pos rfl]
          have hr1b : (uA σ' 33 10 (upd (σ'.2.1 33 10) (2 * s + 1) (nI (f (p + 1) - 48)))).2.1 33 10 (2 * s) = (nI (f p - 48)) := by rw [uA_s, upd_at, if_neg (by omega)]; exact hr1c
          have hlo2 : ∀ j, j < 2 * s → (uA σ' 33 10 (upd (σ'.2.1 33 10) (2 * s + 1) (nI (f (p + 1) - 48)))).2.1 33 10 j = σ.2.1 33 10 j := fun j hj => by rw [uA_s, upd_at, if_neg (by omega)]; exact hlo1b j hj
          generalize uA σ' 33 10 (upd (σ'.2.1 33 10) (2 * s + 1) (nI (f (p + 1) - 48))) = τ2 at hF2 hK3 h203 hr2 hr1b hlo2 ⊢
          refine go_aload_n (i := 0) (pc := 63) dX12_readsCarrier_63 rfl rfl ?_
          refine go_dup (pc := 64) dX12_readsCarrier_64 rfl ?_
          refine go_geti fl_X12_169 (pc := 65) dX12_readsCarrier_65 (by rfl) ?_
          rw [h203]
          refine go_iconst (nI 1) (pc := 68) dX12_readsCarrier_68 (by decide) ?_
          first | with_reducible refine go_iaddN (pc := 69) dX12_readsCarrier_69 ?_ | refine go_iadd (pc := 69) dX12_readsCarrier_69 ?_
          refine go_puti fp_X12_169 (pc := 70) dX12_readsCarrier_70 (by rfl) rfl rfl ?_
          refine go_aload_n (i := 0) (pc := 73) dX12_readsCarrier_73 rfl rfl ?_
          refine go_getr2 fl_X12_45 (pc := 74) dX12_readsCarrier_74 (by rfl) (by rfl) (by rfl) ?_
          refine go_iload_n (i := 1) (pc := 77) dX12_readsCarrier_77 rfl rfl ?_
          refine go_iconst (nI 1) (pc := 78) dX12_readsCarrier_78 (by decide) ?_
          first | with_reducible refine go_iaddN (pc := 79) dX12_readsCarrier_79 ?_ | refine go_iadd (pc := 79) dX12_readsCarrier_79 ?_
          refine go_iaload _ (pc := 80) dX12_readsCarrier_80 (by first | rfl | (apply zM_ar <;> assumption)) (by first | rfl | (apply zM_jn <;> assumption)) rfl (by first | assumption | omega) ?_
          rw [show (uS τ2 33 20 (nI (s + 1))).2.1 33 10 (2 * s + 1) = _ from hr2]
          refine go_if_lt 88 (pc := 81) dX12_readsCarrier_81 (by decide) (fun h81 => ?_) (fun h81 => ?_)
          · exact absurd h81 (nI_pos (by omega))
          · refine go_iconst (nI 1) (pc := 84) dX12_readsCarrier_84 (by decide) ?_
            refine go_goto 89 (pc := 85) dX12_readsCarrier_85 (by decide) ?_
            refine go_zreturn (pc := 89) dX12_readsCarrier_89 rfl (by first | rfl | (apply zb_nar)) ?_
            rw [ec]
            exact ⟨rfl, hK3.fr (fs := [20]) (js := []) (Fr9.rf.uS (by simp)) (by decide) (by decide) (by decide), fun _ => ⟨uS_s _ _ _ _, hr1b, hr2⟩, hlo2, hF2.uS (by simp)⟩
        · exact absurd (nI_pos' (by omega)) h48
      · first | rw [nI_eq (by omega) (by omega)] at h11 | rw [zi_eqN (by omega)] at h11 | rw [zi_Neq (by omega)] at h11 | rw [zi_eq] at h11
        exfalso; omega
    · have ec : cLn f lim p = (false, p + 1, 0, 0) := by unfold cLn; rw [if_neg (fun q => q hd1), if_pos hd2]
      refine go_aload_n (i := 0) (pc := 0) dX12_readsCarrier_0 rfl rfl ?_
      refine go_geti fl_X12_111 (pc := 1) dX12_readsCarrier_1 (by rfl) ?_
      rw [h4]
      refine go_aload_n (i := 0) (pc := 4) dX12_readsCarrier_4 rfl rfl ?_
      refine go_geti fl_X12_169 (pc := 5) dX12_readsCarrier_5 (by rfl) ?_
      rw [h20]
      first | with_reducible refine go_iaddN (pc := 8) dX12_readsCarrier_8 ?_ | refine go_iadd (pc := 8) dX12_readsCarrier_8 ?_
      refine go_bipush (nI 8) (pc := 9) dX12_readsCarrier_9 (by decide) ?_
      refine go_icmp_ne 16 (pc := 11) dX12_readsCarrier_11 (by decide) (fun h11 => ?_) (fun h11 => ?_)
      · first | rw [nI_eq (by omega) (by omega)] at h11 | rw [zi_eqN (by omega)] at h11 | rw [zi_Neq (by omega)] at h11 | rw [zi_eq] at h11
        refine go_iconst (nI 2) (pc := 16) dX12_readsCarrier_16 (by decide) ?_
        refine go_aload_n (i := 0) (pc := 17) dX12_readsCarrier_17 rfl rfl ?_
        refine go_geti fl_X12_169 (pc := 18) dX12_readsCarrier_18 (by rfl) ?_
        rw [h20]
        first | with_reducible refine go_imulN (pc := 21) dX12_readsCarrier_21 ?_ | refine go_imul (pc := 21) dX12_readsCarrier_21 ?_
        refine go_istore_n (i := 1) (pc := 22) dX12_readsCarrier_22 rfl (by decide) ?_
        refine go_aload_n (i := 0) (pc := 23) dX12_readsCarrier_23 rfl rfl ?_
        refine go_getr2 fl_X12_45 (pc := 24) dX12_readsCarrier_24 (by rfl) (by rfl) (by rfl) ?_
        refine go_iload_n (i := 1) (pc := 27) dX12_readsCarrier_27 rfl rfl ?_
        refine go_aload_n (i := 0) (pc := 28) dX12_readsCarrier_28 rfl rfl ?_
        refine go_iconst (nI 0) (pc := 29) dX12_readsCarrier_29 (by decide) ?_
        refine go_iconst (nI 4) (pc := 30) dX12_readsCarrier_30 (by decide) ?_
        refine go_callV ml_X12_186 mt_X12_digitIn (pc := 31) dX12_readsCarrier_31 (c_X12_digitIn (lo := 0) (hi := 4) hK (by decide) (by decide)) (by rfl) rfl (by rfl) (by decide) (by decide) rfl rfl (Nat.le_of_ble_eq_true rfl) (fun r σ' hp => ?_)
        obtain ⟨rfl, hK2, hFd⟩ := hp
        dsimp only [zRet]
        rw [if_pos hd1] at hK2 ⊢
        refine go_iastore (2 * s) (pc := 34) dX12_readsCarrier_34 rfl rfl rfl (by omega) ?_
        have hF1 : Fr9 [16, 20] [10] σ (uA σ' 33 10 (upd (σ'.2.1 33 10) (2 * s) (nI (f p - 48)))) := (hFd.mono (by simp) (by simp)).uA (by simp)
        have hK1 : Cur (uA σ' 33 10 (upd (σ'.2.1 33 10) (2 * s) (nI (f p - 48)))) f _ lim := hK2.fr (fs := []) (js := [10]) (Fr9.rf.uA (by simp)) (by decide) (by decide) (by decide)
        have h201 : (uA σ' 33 10 (upd (σ'.2.1 33 10) (2 * s) (nI (f p - 48)))).1 33 20 = nI s := by rw [uA_1, hFd.2.1 _ (by decide)]; exact h20
        have hr1 : (uA σ' 33 10 (upd (σ'.2.1 33 10) (2 * s) (nI (f p - 48)))).2.1 33 10 (2 * s) = (nI (f p - 48)) := by rw [uA_s, upd_at, if_pos rfl]
        have hlo1 : ∀ j, j < 2 * s → (uA σ' 33 10 (upd (σ'.2.1 33 10) (2 * s) (nI (f p - 48)))).2.1 33 10 j = σ.2.1 33 10 j := fun j hj => by rw [uA_s, upd_at, if_neg (by omega), hFd.2.2.1 10 (by decide)]
        generalize uA σ' 33 10 (upd (σ'.2.1 33 10) (2 * s) (nI (f p - 48))) = τ1 at hF1 hK1 h201 hr1 hlo1 ⊢
        refine go_aload_n (i := 0) (pc := 35) dX12_readsCarrier_35 rfl rfl ?_
        refine go_getr2 fl_X12_45 (pc := 36) dX12_readsCarrier_36 (by rfl) (by rfl) (by rfl) ?_
        refine go_iload_n (i := 1) (pc := 39) dX12_readsCarrier_39 rfl rfl ?_
        refine go_iconst (nI 1) (pc := 40) dX12_readsCarrier_40 (by decide) ?_
        first | with_reducible refine go_iaddN (pc := 41) dX12_readsCarrier_41 ?_ | refine go_iadd (pc := 41) dX12_readsCarrier_41 ?_
        refine go_aload_n (i := 0) (pc := 42) dX12_readsCarrier_42 rfl rfl ?_
        refine go_getr2 fl_X12_45 (pc := 43) dX12_readsCarrier_43 (by rfl) (by rfl) (by rfl) ?_
        refine go_iload_n (i := 1) (pc := 46) dX12_readsCarrier_46 rfl rfl ?_
        refine go_iaload _ (pc := 47) dX12_readsCarrier_47 (by first | rfl | (apply zM_ar <;> assumption)) (by first | rfl | (apply zM_jn <;> assumption)) rfl (by first | assumption | omega) ?_
        rw [hr1]
        refine go_if_ge 55 (pc := 48) dX12_readsCarrier_48 (by decide) (fun h48 => ?_) (fun h48 => ?_)
        · refine go_aload_n (i := 0) (pc := 55) dX12_readsCarrier_55 rfl rfl ?_
          refine go_iconst (nI 1) (pc := 56) dX12_readsCarrier_56 (by decide) ?_
          refine go_bipush (nI 9) (pc := 57) dX12_readsCarrier_57 (by decide) ?_
          refine go_callV ml_X12_186 mt_X12_digitIn (pc := 59) dX12_readsCarrier_59 (c_X12_digitIn (lo := 1) (hi := 9) hK1 (by decide) (by decide)) (by rfl) rfl (by rfl) (by decide) (by decide) rfl rfl (Nat.le_of_ble_eq_true rfl) (fun r σ' hp => ?_)
          obtain ⟨rfl, hK2, hFe⟩ := hp
          dsimp only [zRet]
          rw [if_neg hd2] at hK2 ⊢
          have hF1b := hF1.tr (hFe.mono (by simp) (by simp))
          have h201b : σ'.1 33 20 = nI s := by rw [hFe.2.1 _ (by decide)]; exact h201
          have hr1c : σ'.2.1 33 10 (2 * s) = (nI (f p - 48)) := (by rw [hFe.2.2.1 10 (by decide)]; exact hr1)
          have hlo1b : ∀ j, j < 2 * s → σ'.2.1 33 10 j = σ.2.1 33 10 j := fun j hj => by rw [hFe.2.2.1 10 (by decide)]; exact hlo1 j hj
          refine go_iastore (2 * s + 1) (pc := 62) dX12_readsCarrier_62 rfl rfl rfl (by omega) ?_
          have hF2 : Fr9 [16, 20] [10] σ (uA σ' 33 10 (upd (σ'.2.1 33 10) (2 * s + 1) (-1))) := (hF1b).uA (by simp)
          have hK3 : Cur (uA σ' 33 10 (upd (σ'.2.1 33 10) (2 * s + 1) (-1))) f _ lim := (hK2).fr (fs := []) (js := [10]) (Fr9.rf.uA (by simp)) (by decide) (by decide) (by decide)
          have h203 : (uA σ' 33 10 (upd (σ'.2.1 33 10) (2 * s + 1) (-1))).1 33 20 = nI s := h201b
          have hr2 : (uA σ' 33 10 (upd (σ'.2.1 33 10) (2 * s + 1) (-1))).2.1 33 10 (2 * s + 1) = (-1) := by rw [uA_s, upd_at, if_pos rfl]
          have hr1b : (uA σ' 33 10 (upd (σ'.2.1 33 10) (2 * s + 1) (-1))).2.1 33 10 (2 * s) = (nI (f p - 48)) := by rw [uA_s, upd_at, if_neg (by omega)]; exact hr1c
          have hlo2 : ∀ j, j < 2 * s → (uA σ' 33 10 (upd (σ'.2.1 33 10) (2 * s + 1) (-1))).2.1 33 10 j = σ.2.1 33 10 j := fun j hj => by rw [uA_s, upd_at, if_neg (by omega)]; exact hlo1b j hj
          generalize uA σ' 33 10 (upd (σ'.2.1 33 10) (2 * s + 1) (-1)) = τ2 at hF2 hK3 h203 hr2 hr1b hlo2 ⊢
          refine go_aload_n (i := 0) (pc := 63) dX12_readsCarrier_63 rfl rfl ?_
          refine go_dup (pc := 64) dX12_readsCarrier_64 rfl ?_
          refine go_geti fl_X12_169 (pc := 65) dX12_readsCarrier_65 (by rfl) ?_
          rw [h203]
          refine go_iconst (nI 1) (pc := 68) dX12_readsCarrier_68 (by decide) ?_
          first | with_reducible refine go_iaddN (pc := 69) dX12_readsCarrier_69 ?_ | refine go_iadd (pc := 69) dX12_readsCarrier_69 ?_
          refine go_puti fp_X12_169 (pc := 70) dX12_readsCarrier_70 (by rfl) rfl rfl ?_
          refine go_aload_n (i := 0) (pc := 73) dX12_readsCarrier_73 rfl rfl ?_
          refine go_getr2 fl_X12_45 (pc := 74) dX12_readsCarrier_74 (by rfl) (by rfl) (by rfl) ?_
          refine go_iload_n (i := 1) (pc := 77) dX12_readsCarrier_77 rfl rfl ?_
          refine go_iconst (nI 1) (pc := 78) dX12_readsCarrier_78 (by decide) ?_
          first | with_reducible refine go_iaddN (pc := 79) dX12_readsCarrier_79 ?_ | refine go_iadd (pc := 79) dX12_readsCarrier_79 ?_
          refine go_iaload _ (pc := 80) dX12_readsCarrier_80 (by first | rfl | (apply zM_ar <;> assumption)) (by first | rfl | (apply zM_jn <;> assumption)) rfl (by first | assumption | omega) ?_
          rw [show (uS τ2 33 20 (nI (s + 1))).2.1 33 10 (2 * s + 1) = _ from hr2]
          refine go_if_lt 88 (pc := 81) dX12_readsCarrier_81 (by decide) (fun h81 => ?_) (fun h81 => ?_)
          · refine go_iconst (nI 0) (pc := 88) dX12_readsCarrier_88 (by decide) ?_
            refine go_zreturn (pc := 89) dX12_readsCarrier_89 rfl (by first | rfl | (apply zb_nar)) ?_
            rw [ec]
            exact ⟨rfl, hK3.fr (fs := [20]) (js := []) (Fr9.rf.uS (by simp)) (by decide) (by decide) (by decide), fun h => (by cases h), hlo2, hF2.uS (by simp)⟩
          · exact absurd (by decide) h81
        · exact absurd (nI_pos' (by omega)) h48
      · first | rw [nI_eq (by omega) (by omega)] at h11 | rw [zi_eqN (by omega)] at h11 | rw [zi_Neq (by omega)] at h11 | rw [zi_eq] at h11
        exfalso; omega
  · have ec : cLn f lim p = (false, p, 0, 0) := by unfold cLn; rw [if_pos hd1]
    refine go_aload_n (i := 0) (pc := 0) dX12_readsCarrier_0 rfl rfl ?_
    refine go_geti fl_X12_111 (pc := 1) dX12_readsCarrier_1 (by rfl) ?_
    rw [h4]
    refine go_aload_n (i := 0) (pc := 4) dX12_readsCarrier_4 rfl rfl ?_
    refine go_geti fl_X12_169 (pc := 5) dX12_readsCarrier_5 (by rfl) ?_
    rw [h20]
    first | with_reducible refine go_iaddN (pc := 8) dX12_readsCarrier_8 ?_ | refine go_iadd (pc := 8) dX12_readsCarrier_8 ?_
    refine go_bipush (nI 8) (pc := 9) dX12_readsCarrier_9 (by decide) ?_
    refine go_icmp_ne 16 (pc := 11) dX12_readsCarrier_11 (by decide) (fun h11 => ?_) (fun h11 => ?_)
    · first | rw [nI_eq (by omega) (by omega)] at h11 | rw [zi_eqN (by omega)] at h11 | rw [zi_Neq (by omega)] at h11 | rw [zi_eq] at h11
      refine go_iconst (nI 2) (pc := 16) dX12_readsCarrier_16 (by decide) ?_
      refine go_aload_n (i := 0) (pc := 17) dX12_readsCarrier_17 rfl rfl ?_
      refine go_geti fl_X12_169 (pc := 18) dX12_readsCarrier_18 (by rfl) ?_
      rw [h20]
      first | with_reducible refine go_imulN (pc := 21) dX12_readsCarrier_21 ?_ | refine go_imul (pc := 21) dX12_readsCarrier_21 ?_
      refine go_istore_n (i := 1) (pc := 22) dX12_readsCarrier_22 rfl (by decide) ?_
      refine go_aload_n (i := 0) (pc := 23) dX12_readsCarrier_23 rfl rfl ?_
      refine go_getr2 fl_X12_45 (pc := 24) dX12_readsCarrier_24 (by rfl) (by rfl) (by rfl) ?_
      refine go_iload_n (i := 1) (pc := 27) dX12_readsCarrier_27 rfl rfl ?_
      refine go_aload_n (i := 0) (pc := 28) dX12_readsCarrier_28 rfl rfl ?_
      refine go_iconst (nI 0) (pc := 29) dX12_readsCarrier_29 (by decide) ?_
      refine go_iconst (nI 4) (pc := 30) dX12_readsCarrier_30 (by decide) ?_
      refine go_callV ml_X12_186 mt_X12_digitIn (pc := 31) dX12_readsCarrier_31 (c_X12_digitIn (lo := 0) (hi := 4) hK (by decide) (by decide)) (by rfl) rfl (by rfl) (by decide) (by decide) rfl rfl (Nat.le_of_ble_eq_true rfl) (fun r σ' hp => ?_)
      obtain ⟨rfl, hK2, hFd⟩ := hp
      dsimp only [zRet]
      rw [if_neg hd1] at hK2 ⊢
      refine go_iastore (2 * s) (pc := 34) dX12_readsCarrier_34 rfl rfl rfl (by omega) ?_
      have hF1 : Fr9 [16, 20] [10] σ (uA σ' 33 10 (upd (σ'.2.1 33 10) (2 * s) (-1))) := (hFd.mono (by simp) (by simp)).uA (by simp)
      have hK1 : Cur (uA σ' 33 10 (upd (σ'.2.1 33 10) (2 * s) (-1))) f _ lim := hK2.fr (fs := []) (js := [10]) (Fr9.rf.uA (by simp)) (by decide) (by decide) (by decide)
      have h201 : (uA σ' 33 10 (upd (σ'.2.1 33 10) (2 * s) (-1))).1 33 20 = nI s := by rw [uA_1, hFd.2.1 _ (by decide)]; exact h20
      have hr1 : (uA σ' 33 10 (upd (σ'.2.1 33 10) (2 * s) (-1))).2.1 33 10 (2 * s) = (-1) := by rw [uA_s, upd_at, if_pos rfl]
      have hlo1 : ∀ j, j < 2 * s → (uA σ' 33 10 (upd (σ'.2.1 33 10) (2 * s) (-1))).2.1 33 10 j = σ.2.1 33 10 j := fun j hj => by rw [uA_s, upd_at, if_neg (by omega), hFd.2.2.1 10 (by decide)]
      generalize uA σ' 33 10 (upd (σ'.2.1 33 10) (2 * s) (-1)) = τ1 at hF1 hK1 h201 hr1 hlo1 ⊢
      refine go_aload_n (i := 0) (pc := 35) dX12_readsCarrier_35 rfl rfl ?_
      refine go_getr2 fl_X12_45 (pc := 36) dX12_readsCarrier_36 (by rfl) (by rfl) (by rfl) ?_
      refine go_iload_n (i := 1) (pc := 39) dX12_readsCarrier_39 rfl rfl ?_
      refine go_iconst (nI 1) (pc := 40) dX12_readsCarrier_40 (by decide) ?_
      first | with_reducible refine go_iaddN (pc := 41) dX12_readsCarrier_41 ?_ | refine go_iadd (pc := 41) dX12_readsCarrier_41 ?_
      refine go_aload_n (i := 0) (pc := 42) dX12_readsCarrier_42 rfl rfl ?_
      refine go_getr2 fl_X12_45 (pc := 43) dX12_readsCarrier_43 (by rfl) (by rfl) (by rfl) ?_
      refine go_iload_n (i := 1) (pc := 46) dX12_readsCarrier_46 rfl rfl ?_
      refine go_iaload _ (pc := 47) dX12_readsCarrier_47 (by first | rfl | (apply zM_ar <;> assumption)) (by first | rfl | (apply zM_jn <;> assumption)) rfl (by first | assumption | omega) ?_
      rw [hr1]
      refine go_if_ge 55 (pc := 48) dX12_readsCarrier_48 (by decide) (fun h48 => ?_) (fun h48 => ?_)
      · exact absurd h48 (by decide)
      · refine go_iconst (-1) (pc := 51) dX12_readsCarrier_51 (by decide) ?_
        refine go_goto 62 (pc := 52) dX12_readsCarrier_52 (by decide) ?_
        refine go_iastore (2 * s + 1) (pc := 62) dX12_readsCarrier_62 rfl rfl rfl (by omega) ?_
        have hF2 : Fr9 [16, 20] [10] σ (uA τ1 33 10 (upd (τ1.2.1 33 10) (2 * s + 1) (-1))) := (hF1).uA (by simp)
        have hK3 : Cur (uA τ1 33 10 (upd (τ1.2.1 33 10) (2 * s + 1) (-1))) f _ lim := (hK1).fr (fs := []) (js := [10]) (Fr9.rf.uA (by simp)) (by decide) (by decide) (by decide)
        have h203 : (uA τ1 33 10 (upd (τ1.2.1 33 10) (2 * s + 1) (-1))).1 33 20 = nI s := h201
        have hr2 : (uA τ1 33 10 (upd (τ1.2.1 33 10) (2 * s + 1) (-1))).2.1 33 10 (2 * s + 1) = (-1) := by rw [uA_s, upd_at, if_pos rfl]
        have hr1b : (uA τ1 33 10 (upd (τ1.2.1 33 10) (2 * s + 1) (-1))).2.1 33 10 (2 * s) = (-1) := by rw [uA_s, upd_at, if_neg (by omega)]; exact hr1
        have hlo2 : ∀ j, j < 2 * s → (uA τ1 33 10 (upd (τ1.2.1 33 10) (2 * s + 1) (-1))).2.1 33 10 j = σ.2.1 33 10 j := fun j hj => by rw [uA_s, upd_at, if_neg (by omega)]; exact hlo1 j hj
        generalize uA τ1 33 10 (upd (τ1.2.1 33 10) (2 * s + 1) (-1)) = τ2 at hF2 hK3 h203 hr2 hr1b hlo2 ⊢
        refine go_aload_n (i := 0) (pc := 63) dX12_readsCarrier_63 rfl rfl ?_
        refine go_dup (pc := 64) dX12_readsCarrier_64 rfl ?_
        refine go_geti fl_X12_169 (pc := 65) dX12_readsCarrier_65 (by rfl) ?_
        rw [h203]
        refine go_iconst (nI 1) (pc := 68) dX12_readsCarrier_68 (by decide) ?_
        first | with_reducible refine go_iaddN (pc := 69) dX12_readsCarrier_69 ?_ | refine go_iadd (pc := 69) dX12_readsCarrier_69 ?_
        refine go_puti fp_X12_169 (pc := 70) dX12_readsCarrier_70 (by rfl) rfl rfl ?_
        refine go_aload_n (i := 0) (pc := 73) dX12_readsCarrier_73 rfl rfl ?_
        refine go_getr2 fl_X12_45 (pc := 74) dX12_readsCarrier_74 (by rfl) (by rfl) (by rfl) ?_
        refine go_iload_n (i := 1) (pc := 77) dX12_readsCarrier_77 rfl rfl ?_
        refine go_iconst (nI 1) (pc := 78) dX12_readsCarrier_78 (by decide) ?_
        first | with_reducible refine go_iaddN (pc := 79) dX12_readsCarrier_79 ?_ | refine go_iadd (pc := 79) dX12_readsCarrier_79 ?_
        refine go_iaload _ (pc := 80) dX12_readsCarrier_80 (by first | rfl | (apply zM_ar <;> assumption)) (by first | rfl | (apply zM_jn <;> assumption)) rfl (by first | assumption | omega) ?_
        rw [show (uS τ2 33 20 (nI (s + 1))).2.1 33 10 (2 * s + 1) = _ from hr2]
        refine go_if_lt 88 (pc := 81) dX12_readsCarrier_81 (by decide) (fun h81 => ?_) (fun h81 => ?_)
        · refine go_iconst (nI 0) (pc := 88) dX12_readsCarrier_88 (by decide) ?_
          refine go_zreturn (pc := 89) dX12_readsCarrier_89 rfl (by first | rfl | (apply zb_nar)) ?_
          rw [ec]
          exact ⟨rfl, hK3.fr (fs := [20]) (js := []) (Fr9.rf.uS (by simp)) (by decide) (by decide) (by decide), fun h => (by cases h), hlo2, hF2.uS (by simp)⟩
        · exact absurd (by decide) h81
    · first | rw [nI_eq (by omega) (by omega)] at h11 | rw [zi_eqN (by omega)] at h11 | rw [zi_Neq (by omega)] at h11 | rw [zi_eq] at h11
      exfalso; omega

