/-! what carriers, weather and a rule of danger say; the pure walk of a week -/
abbrev zV : Type := Nat × Nat × (Nat → Nat) × (Nat → Nat) × Nat × (Nat → Nat) × List Nat
def vN (V : zV) : Nat := V.1
def vC (V : zV) : Nat := V.2.1
def vK (V : zV) : Nat → Nat := V.2.2.1
def vL (V : zV) : Nat → Nat := V.2.2.2.1
def vS (V : zV) : Nat := V.2.2.2.2.1
def vW (V : zV) : Nat → Nat := V.2.2.2.2.2.1
def vX (V : zV) : List Nat := V.2.2.2.2.2.2
def vR (V : zV) : Nat → Nat → Nat → Nat → Nat → Nat := rsk (vX V)
def VOK (V : zV) : Prop := 1 ≤ vN V ∧ vN V ≤ 12 ∧ vC V ≤ 8 ∧ (∀ c, c < vC V → vK V c ≤ 4 ∧ 1 ≤ vL V c ∧ vL V c ≤ 9) ∧ 1 ≤ vS V ∧ vS V ≤ 20 ∧ (∀ i, i < vS V → vW V i ≤ 3) ∧ ∀ h g l w o, vR V h g l w o ≤ 999
/-- DANGER of carrier c at mile m -/
def dng (V : zV) (ρ : Nat → Nat) (c m : Nat) : Option Nat :=
  if vK V c = 4 then some (2 * menSum (vN V) ρ)
  else if (ρ 24).testBit m ≠ decide (vK V c = 3) then none
  else if vK V c = 2 ∧ vW V (ρ 27 % vS V) ≠ 2 then none
  else
    let r := vR V (if vK V c = 1 then ρ m / 2 else if vK V c = 2 then 0 else ρ m) (ρ (12 + m)) (vL V c) (ρ 27 % 8) (menOth (vN V) ρ m)
    some (if vK V c = 3 then r / 2 else r)
/-- the least dangerous of the first j miles, and its danger -/
def saf (V : zV) (ρ : Nat → Nat) (c : Nat) : Nat → Option (Nat × Nat)
  | 0 => none
  | j + 1 => match dng V ρ c j with
    | none => saf V ρ c j
    | some d => match saf V ρ c j with
      | none => some (j, d)
      | some (b, x) => if d < x then some (j, d) else some (b, x)
def easy (V : zV) (ρ : Nat → Nat) (c : Nat) : Option (Nat × Nat) := saf V ρ c (vN V)
/-- what it is worth to c: loads times the difference of prices -/
def gain (V : zV) (ρ : Nat → Nat) (c : Nat) : Int := (vL V c : Int) * ((ρ 26 : Int) - (ρ 25 : Int))
/-- the mile to which c goes -/
def gos (V : zV) (ρ : Nat → Nat) (c : Nat) : Option Nat := match easy V ρ c with
  | none => none
  | some (m, x) => if (x : Int) < gain V ρ c then some m else none
/-- the first j carriers, one behind the other, but those of st: bits, loads, loads over each mile, the row -/
def crs (V : zV) (st : Nat) (ρ : Nat → Nat) : Nat → Nat × Nat × (Nat → Nat) × (Nat → Nat)
  | 0 => (0, 0, fun _ => 0, ρ)
  | j + 1 => let q := crs V st ρ j
    if st.testBit j then q else match gos V q.2.2.2 j with
      | none => q
      | some m => (q.1 + 2 ^ j, q.2.1 + vL V j, if vK V j = 4 then q.2.2.1 else va_up q.2.2.1 m (q.2.2.1 m + vL V j), if vK V j = 1 then va_up q.2.2.2 m (q.2.2.2 m - 2) else q.2.2.2)
def crsA (V : zV) (st : Nat) (ρ : Nat → Nat) : Nat × Nat × (Nat → Nat) × (Nat → Nat) := crs V st ρ (vC V)
/-- what weather c (0 fair, 1 dry, 2 rain, 3 ants) does, and the week goes by -/
def endW (n : Nat) (ρ : Nat → Nat) (c : Nat) : Nat → Nat := va_up (if c = 1 then (fun i => if i < n then ρ i - 1 else ρ i) else if c = 2 then (fun i => if i < n then min 9 (ρ i + 1) else ρ i) else if c = 3 then va_up ρ (ρ 27 % n) 0 else ρ) 27 (ρ 27 + 1)
/-- a week: bits, loads, the row -/
def wk1 (V : zV) (ρ : Nat → Nat) : Nat × Nat × (Nat → Nat) := let q := crsA V 0 ρ
  (q.1, q.2.1, endW (vN V) (va_up q.2.2.2 28 (q.2.2.2 28 + q.2.1)) (vW V (q.2.2.2 27 % vS V)))
/-- t weeks: bits of those who went in some, how many weeks without, loads, the row -/
def wks (V : zV) (ρ : Nat → Nat) : Nat → Nat × Nat × Nat × (Nat → Nat)
  | 0 => (0, 0, 0, ρ)
  | t + 1 => let q := wks V ρ t
    let w := wk1 V q.2.2.2
    (q.1 ||| w.1, if w.2.1 = 0 then q.2.1 + 1 else q.2.1, q.2.2.1 + w.2.1, w.2.2)
theorem dng_lt {V : zV} {ρ : Nat → Nat} {c m d : Nat} (hV : VOK V) (hok : RowOK (vN V) ρ) (h : dng V ρ c m = some d) : d ≤ 999 := by
  unfold dng at h
  split at h
  · cases h
    have := sumN_le (n := vN V) (c := 9) (g := fun i => ρ (12 + i)) (fun i hi => hok.2.2.1 _ (by have := hok.2.1; omega))
    have h2 : vN V * 9 ≤ 12 * 9 := Nat.mul_le_mul_right 9 hok.2.1
    unfold menSum
    omega
  · split at h
    · cases h
    · split at h
      · cases h
      · cases h
        have := hV.2.2.2.2.2.2.2 (if vK V c = 1 then ρ m / 2 else if vK V c = 2 then 0 else ρ m) (ρ (12 + m)) (vL V c) (ρ 27 % 8) (menOth (vN V) ρ m)
        split <;> omega
theorem saf_lt {V : zV} {ρ : Nat → Nat} {c j b x : Nat} (hV : VOK V) (hok : RowOK (vN V) ρ) (h : saf V ρ c j = some (b, x)) : b < j ∧ x ≤ 999 := by
  induction j generalizing b x with
  | zero => cases h
  | succ j ih =>
    unfold saf at h
    cases hd : dng V ρ c j with
    | none => rw [hd] at h; have := ih h; omega
    | some d =>
      have hdl := dng_lt hV hok hd
      rw [hd] at h
      cases hs : saf V ρ c j with
      | none => rw [hs] at h; cases h; omega
      | some q =>
        obtain ⟨b2, x2⟩ := q
        have hi := ih hs
        rw [hs] at h
        dsimp only at h
        split at h <;> (cases h; omega)
/-- with danger 0 nothing better comes -/
theorem saf_0 {V : zV} {ρ : Nat → Nat} {c j b : Nat} (h : saf V ρ c j = some (b, 0)) : ∀ i, saf V ρ c (j + i) = some (b, 0) := by
  intro i
  induction i with
  | zero => exact h
  | succ i ih =>
    rw [← Nat.add_assoc]
    unfold saf
    cases dng V ρ c (j + i) with
    | none => exact ih
    | some d => rw [ih]; simp
theorem gos_lt {V : zV} {ρ : Nat → Nat} {c m : Nat} (hV : VOK V) (hok : RowOK (vN V) ρ) (h : gos V ρ c = some m) : m < vN V := by
  unfold gos at h
  cases he : easy V ρ c with
  | none => rw [he] at h; cases h
  | some q =>
    obtain ⟨b, x⟩ := q
    rw [he] at h
    dsimp only at h
    split at h
    · cases h; exact (saf_lt hV hok he).1
    · cases h
/-- crossings change hedges alone -/
theorem crs_ok {V : zV} {st : Nat} {ρ : Nat → Nat} (hV : VOK V) (hok : RowOK (vN V) ρ) (j : Nat) (hj : j ≤ vC V) : RowOK (vN V) (crs V st ρ j).2.2.2 ∧ (∀ i, 12 ≤ i → (crs V st ρ j).2.2.2 i = ρ i) ∧ (crs V st ρ j).2.1 ≤ 9 * j ∧ (crs V st ρ j).1 < 2 ^ j ∧ ∀ i, (crs V st ρ j).2.2.1 i ≤ 9 * j := by
  induction j with
  | zero => exact ⟨hok, fun _ _ => rfl, Nat.le_refl _, (by decide : 0 < 2 ^ 0), fun _ => Nat.le_refl _⟩
  | succ j ih =>
    obtain ⟨h1, h2, h3, h4, h5⟩ := ih (by omega)
    have hp : 2 ^ (j + 1) = 2 ^ j + 2 ^ j := by rw [Nat.pow_succ]; omega
    have hl := (hV.2.2.2.1 j (by omega)).2.2
    unfold crs
    dsimp only
    split
    · exact ⟨h1, h2, by omega, by omega, fun i => by have := h5 i; omega⟩
    · cases hg : gos V (crs V st ρ j).2.2.2 j with
      | none =>
        dsimp only
        exact ⟨h1, h2, by omega, by omega, fun i => by have := h5 i; omega⟩
      | some m =>
        have hm := gos_lt hV h1 hg
        have hn := hV.2.1
        have h9 := h1.2.2.1 m (by omega)
        refine ⟨?_, fun i hi => ?_, by dsimp only; omega, by dsimp only; omega, fun i => ?_⟩
        · dsimp only
          split
          · exact h1.lo (by omega) (by omega)
          · exact h1
        · dsimp only
          split
          · rw [va_at', if_neg (by omega)]; exact h2 i hi
          · exact h2 i hi
        · dsimp only
          have := h5 i
          split
          · omega
          · rw [va_at']
            split
            · have := h5 m; omega
            · omega
theorem endW_ok {n : Nat} {ρ : Nat → Nat} {c : Nat} (hok : RowOK n ρ) (hw : ρ 27 + 1 < 2 ^ 28) : RowOK n (endW n ρ c) := by
  have h24 : RowOK n (if c = 1 then (fun i => if i < n then ρ i - 1 else ρ i) else if c = 2 then (fun i => if i < n then min 9 (ρ i + 1) else ρ i) else if c = 3 then va_up ρ (ρ 27 % n) 0 else ρ) := by
    have hn := hok.2.1
    have hm : ρ 27 % n < n := Nat.mod_lt _ hok.1
    split
    · obtain ⟨h1, h2, h3, h4, h5, h6, h7, h8⟩ := hok
      refine ⟨h1, h2, fun i hi => ?_, ?_, ?_, ?_, ?_, ?_⟩
      · have := h3 i hi
        dsimp only
        split <;> omega
      all_goals (dsimp only; rw [if_neg (by omega)]; assumption)
    · split
      · obtain ⟨h1, h2, h3, h4, h5, h6, h7, h8⟩ := hok
        refine ⟨h1, h2, fun i hi => ?_, ?_, ?_, ?_, ?_, ?_⟩
        · have := h3 i hi
          dsimp only
          split <;> omega
        all_goals (dsimp only; rw [if_neg (by omega)]; assumption)
      · split
        · exact hok.lo (by omega) (by omega)
        · exact hok
  exact h24.hi (by omega)
