theorem dAct_ok {V : zV} {f ρ : Nat → Nat} {p : Nat} (hV : VOK V) (hok : RowOK (vN V) ρ) (h1 : ρ 27 + 9 < 2 ^ 28) (h2 : ρ 28 + 648 < 2 ^ 28) (hd : f p = 119 → f (p + 1) ≤ 57) : RowOK (vN V) (dAct V f ρ p).2 := by
  unfold dAct
  by_cases hw : f p = 119
  · rw [if_pos hw]
    have := hd hw
    exact (wks_ok hV hok (f (p + 1) - 48) (by omega) (by omega)).1
  · rw [if_neg hw]
    split
    · exact aGuard_ok hok
    · split
      · exact aPlant_ok hok
      · split
        · exact aGate_ok hok
        · exact aPrice_ok hok
theorem act_d {f : Nat → Nat} {lim p : Nat} (h : (aOne f lim p).1 = true) : (f p = 119 → 48 ≤ f (p + 1) ∧ f (p + 1) ≤ 57) ∧ (f p = 119 ∨ f p = 103 ∨ f p = 109 ∨ f p = 112 ∨ f p = 99 ∨ f p = 100) := by
  obtain ⟨-, -, h1, h2⟩ := aOne_t h
  have hv : aLen (f p) = 2 ∨ aLen (f p) = 3 := by
    rcases h2 with q | q
    · exact Or.inl q
    · exact Or.inr q.1
  exact ⟨fun e => (fAct_d h1 (by omega)).1, aLen_v hv⟩
def lPos (f : Nat → Nat) : Nat → Nat
  | 0 => 0
  | j + 1 => lPos f j + aLen (f (lPos f j))

theorem c_X12_does {E : zE} {σ : zT} {V : zV} {f ρ : Nat → Nat} {k p lim : Nat} (hE : EnvR σ V) (hw : RwIs σ 7 ρ) (hok : RowOK (vN V) ρ) (hA : ActIs σ f k p) (ha : (aOne f lim p).1 = true) (hk : k < 60) (h27 : ρ 27 + 9 < 2 ^ 28) (h28 : ρ 28 + 648 < 2 ^ 28) (hfb : f (p + 1) < 256) : CalM E 10 yX12_does cX12_does 3 (some .boolean) [.ref (zA E 33 0), .int (nI k)] σ (fun r σ' => r = some (.int (zb (decide (0 ≤ (dAct V f ρ p).1.toInt)))) ∧ RwIs σ' 7 (dAct V f ρ p).2 ∧ Fr9 [27, 28] [13, 14, 16, 7] σ σ') := by
  refine cal_of_go (own := RX12) rfl (by decide +kernel) (Nat.le_of_ble_eq_true rfl) ?_
  have had := act_d ha
  rcases had.2 with hfp | hfp | hfp | hfp | hfp | hfp
  · skip
    sorry
  · skip
    sorry
  · skip
    sorry
  · skip
    sorry
  · skip
    sorry
  · skip
    sorry

