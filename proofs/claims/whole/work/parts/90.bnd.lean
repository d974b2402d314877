/-! weeks and loads stay small over the calls: at most 300 and 21600 more by a call -/
def Bn (j : Nat) (ρ : Nat → Nat) : Prop := ρ 27 ≤ 300 * j ∧ ρ 28 ≤ 21600 * j
def Bnd (j : Nat) (ρ : Nat → Nat) (pa sh : Nat × (Nat → Nat → Nat)) : Prop := Bn j ρ ∧ (∀ i, i < pa.1 → Bn j (pa.2 i)) ∧ ∀ i, i < 3 → sh.1.testBit i = true → Bn j (sh.2 i)
section BN
variable {j n : Nat} {ρ ρ' : Nat → Nat} {pa sh : Nat × (Nat → Nat → Nat)}
theorem Bn.up (h : Bn j ρ) : Bn (j + 1) ρ := by unfold Bn at h ⊢; omega
theorem Bn.of (h : Bn j ρ) (h1 : ρ' 27 ≤ ρ 27 + 300) (h2 : ρ' 28 ≤ ρ 28 + 21600) : Bn (j + 1) ρ' := by unfold Bn at h ⊢; omega
theorem Bn.ro (h : Bn j ρ) (hj : j ≤ 512) : Roomy ρ := by
  unfold Bn at h
  exact ⟨by omega, by omega⟩
theorem Bnd.up (h : Bnd j ρ pa sh) : Bnd (j + 1) ρ pa sh := ⟨h.1.up, fun i hi => (h.2.1 i hi).up, fun i hi hb => (h.2.2 i hi hb).up⟩
theorem Bnd.ro (h : Bnd j ρ pa sh) (hj : j ≤ 512) : Roomy ρ := h.1.ro hj
theorem Bnd.row (h : Bnd j ρ pa sh) (h1 : ρ' 27 ≤ ρ 27 + 300) (h2 : ρ' 28 ≤ ρ 28 + 21600) : Bnd (j + 1) ρ' pa sh := ⟨h.1.of h1 h2, h.up.2.1, h.up.2.2⟩
theorem pushH_b (h : Bnd j ρ pa sh) : ∀ i, i < min (pa.1 + 1) 15 → Bn j (pushH pa.2 pa.1 ρ i) := by
  intro i hi
  unfold pushH
  split
  · dsimp only
    split
    · exact h.1
    · exact h.2.1 _ (by omega)
  · dsimp only
    split
    · exact h.1
    · exact h.2.1 _ (by omega)
theorem Bnd.push (h : Bnd j ρ pa sh) (h1 : ρ' 27 ≤ ρ 27 + 300) (h2 : ρ' 28 ≤ ρ 28 + 21600) : Bnd (j + 1) ρ' (min (pa.1 + 1) 15, pushH pa.2 pa.1 ρ) sh := ⟨h.1.of h1 h2, fun i hi => (pushH_b h i hi).up, h.up.2.2⟩
theorem Bnd.psh {a : Int32} (h : Bnd j ρ pa sh) (h1 : ρ' 27 ≤ ρ 27 + 300) (h2 : ρ' 28 ≤ ρ 28 + 21600) : Bnd (j + 1) ρ' (pshA a pa ρ) sh := by
  unfold pshA
  split
  · exact h.row h1 h2
  · exact h.push h1 h2
theorem aPrice_b {w v : Int32} : (aPrice ρ w v).2 27 = ρ 27 ∧ (aPrice ρ w v).2 28 = ρ 28 := by
  unfold aPrice
  split
  · dsimp only
    rw [va_at', if_neg (by omega), va_at', if_neg (by omega)]
    exact ⟨rfl, rfl⟩
  · exact ⟨rfl, rfl⟩
theorem aGuard_b {m v : Int32} (hn : n ≤ 12) : (aGuard n ρ m v).2 27 = ρ 27 ∧ (aGuard n ρ m v).2 28 = ρ 28 := by
  unfold aGuard
  split
  · dsimp only
    rw [va_at', if_neg (by omega), va_at', if_neg (by omega)]
    exact ⟨rfl, rfl⟩
  · exact ⟨rfl, rfl⟩
theorem aPlant_b {m v : Int32} (hn : n ≤ 12) : (aPlant n ρ m v).2 27 = ρ 27 ∧ (aPlant n ρ m v).2 28 = ρ 28 := by
  unfold aPlant
  split
  · split
    · exact ⟨rfl, rfl⟩
    · dsimp only
      rw [va_at', if_neg (by omega), va_at', if_neg (by omega)]
      exact ⟨rfl, rfl⟩
  · exact ⟨rfl, rfl⟩
theorem gateT_b {m : Nat} (hm : m < 12) : ∀ i, 25 ≤ i → gateT ρ m i = ρ i := by
  intro i hi
  unfold gateT
  rw [va_at', if_neg (by omega)]
  split
  · rfl
  · rw [va_at', if_neg (by omega)]
theorem aGate_b {m : Int32} (hn : n ≤ 12) : (aGate n ρ m).2 27 = ρ 27 ∧ (aGate n ρ m).2 28 = ρ 28 := by
  unfold aGate
  split
  · exact ⟨gateT_b (by omega) 27 (by decide), gateT_b (by omega) 28 (by decide)⟩
  · exact ⟨rfl, rfl⟩
theorem shA_b {k e f s : Int32} (hn : n ≤ 12) : (shA n ρ k e f s).2 27 = ρ 27 ∧ (shA n ρ k e f s).2 28 = ρ 28 := by
  unfold shA
  split
  · exact ⟨rfl, rfl⟩
  · split
    · exact ⟨rfl, rfl⟩
    · exact ⟨if_neg (by omega), if_neg (by omega)⟩
theorem linR_b {f : Nat → Nat} {i : Nat} (hi : i ≤ 12) : linR f ρ i 27 = 0 ∧ linR f ρ i 28 = 0 := by
  induction i with
  | zero => exact ⟨rfl, rfl⟩
  | succ i ih =>
    have h := ih (by omega)
    unfold linR
    split
    · rw [va_at', if_neg (by omega), va_at', if_neg (by omega)]
      exact h
    · rw [va_at', if_neg (by omega), va_at', if_neg (by omega)]
      exact h
theorem logX_b {V : zV} {f : Nat → Nat} {L A B : Nat} (hV : VOK V) (hL : L ≤ 60) (hA : A + 300 < 2 ^ 28) (hB : B + 21600 < 2 ^ 28) : ∀ (k p : Nat) (ρ : Nat → Nat) (n : Nat), logR f L k p = none → RowOK (vN V) ρ → 2 * n ≤ p → p ≤ L → ρ 27 ≤ A + 9 * n → ρ 28 ≤ B + 648 * n → (logX V f L k p ρ n).2.2 27 ≤ A + 300 ∧ (logX V f L k p ρ n).2.2 28 ≤ B + 21600 := by
  intro k
  induction k with
  | zero => intro p ρ n _ _ h1 h2 h3 h4; exact ⟨by show ρ 27 ≤ _; omega, by show ρ 28 ≤ _; omega⟩
  | succ k ih =>
    intro p ρ n hR hok h1 h2 h3 h4
    unfold logX
    split
    · exact ⟨by show ρ 27 ≤ _; omega, by show ρ 28 ≤ _; omega⟩
    · rename_i hp
      unfold logR at hR
      rw [if_neg hp] at hR
      split at hR
      · cases hR
      · rename_i hone
        have ht := aOne_t (f := f) (lim := L) (p := p) (by simpa using hone)
        rw [ht.1] at hR
        have hdig : f p = 119 → f (p + 1) ≤ 57 := fun e => (fAct_d ht.2.2.1 (by omega)).1.2
        have hl2 : 2 ≤ aLen (f p) := by rcases ht.2.2.2 with h | h <;> omega
        have hb := dAct_b (V := V) (f := f) (ρ := ρ) (p := p) hV hok (by omega) (by omega) hdig
        have ho := dAct_ok (V := V) (f := f) (ρ := ρ) (p := p) hV hok (by omega) (by omega) hdig
        split
        · exact ⟨by show (dAct V f ρ p).2 27 ≤ _; omega, by show (dAct V f ρ p).2 28 ≤ _; omega⟩
        · exact ih _ _ _ hR ho (by omega) ht.2.1 (by omega) (by omega)
theorem logE_b {V : zV} {f : Nat → Nat} {L : Nat} (hV : VOK V) (hok : RowOK (vN V) ρ) (hro : Roomy ρ) (h : logF L f = none) : (logE V f L ρ).2.2 27 ≤ ρ 27 + 300 ∧ (logE V f L ρ).2.2 28 ≤ ρ 28 + 21600 := by
  unfold logF at h
  split at h
  · cases h
  · rename_i hq
    split at h
    · cases h
    · rename_i h60
      unfold logQ at hq
      rw [show min L 60 = L by omega] at hq
      exact logX_b hV (by omega) hro.1 hro.2 61 0 ρ 0 hq hok (Nat.zero_le _) (Nat.zero_le _) (by omega) (by omega)
end BN
