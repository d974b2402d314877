/-! reading a changed state -/
theorem uS_1 (σ : zT) (k f : Nat) (v : Int32) (a b : Nat) : (uS σ k f v).1 a b = if a = k ∧ b = f then v else σ.1 a b := rfl
theorem uS_2 (σ : zT) (k f : Nat) (v : Int32) : (uS σ k f v).2 = σ.2 := rfl
theorem uA_1 (σ : zT) (k j : Nat) (g : Nat → Int32) : (uA σ k j g).1 = σ.1 := rfl
theorem uA_2 (σ : zT) (k j : Nat) (g : Nat → Int32) (a b : Nat) : (uA σ k j g).2.1 a b = if a = k ∧ b = j then g else σ.2.1 a b := rfl
theorem uA_3 (σ : zT) (k j : Nat) (g : Nat → Int32) : (uA σ k j g).2.2 = σ.2.2 := rfl
theorem uL_1 (σ : zT) (k : Nat) (g : Nat → Int64) : (uL σ k g).1 = σ.1 := rfl
theorem uL_2 (σ : zT) (k : Nat) (g : Nat → Int64) : (uL σ k g).2.1 = σ.2.1 := rfl
theorem uL_3 (σ : zT) (k : Nat) (g : Nat → Int64) (a : Nat) : (uL σ k g).2.2.1 a = if a = k then g else σ.2.2.1 a := rfl
theorem uL_4 (σ : zT) (k : Nat) (g : Nat → Int64) : (uL σ k g).2.2.2 = σ.2.2.2 := rfl
theorem uR_1 (σ : zT) (f n : Nat) : (uR σ f n).1 = σ.1 := rfl
theorem uR_2 (σ : zT) (f n : Nat) : (uR σ f n).2.1 = σ.2.1 := rfl
theorem uR_3 (σ : zT) (f n : Nat) : (uR σ f n).2.2.1 = σ.2.2.1 := rfl
theorem uR_4 (σ : zT) (f n a : Nat) : (uR σ f n).2.2.2 a = if a = f then n else σ.2.2.2 a := rfl
theorem uS_s (σ : zT) (k f : Nat) (v : Int32) : (uS σ k f v).1 k f = v := by rw [uS_1, if_pos ⟨rfl, rfl⟩]
theorem uA_s (σ : zT) (k j : Nat) (g : Nat → Int32) : (uA σ k j g).2.1 k j = g := by rw [uA_2, if_pos ⟨rfl, rfl⟩]
theorem uA_uA (σ : zT) (k j : Nat) (g g2 : Nat → Int32) : uA (uA σ k j g) k j g2 = uA σ k j g2 := by
  refine Prod.ext rfl (Prod.ext ?_ rfl)
  funext a b
  simp only [uA]
  by_cases h : a = k ∧ b = j
  · rw [if_pos h, if_pos h]
  · rw [if_neg h, if_neg h, if_neg h]
theorem uA_self (σ : zT) (k j : Nat) : uA σ k j (σ.2.1 k j) = σ := by
  refine Prod.ext rfl (Prod.ext ?_ rfl)
  funext a b
  simp only [uA]
  by_cases h : a = k ∧ b = j
  · rw [if_pos h, h.1, h.2]
  · rw [if_neg h]
theorem uS_uS (σ : zT) (k f : Nat) (v w : Int32) : uS (uS σ k f v) k f w = uS σ k f w := by
  refine Prod.ext ?_ rfl
  funext a b
  simp only [uS]
  by_cases h : a = k ∧ b = f
  · rw [if_pos h, if_pos h]
  · rw [if_neg h, if_neg h, if_neg h]
theorem upd_at (f : Nat → Int32) (k : Nat) (x : Int32) (j : Nat) : upd f k x j = if j = k then x else f j := rfl
theorem updL_at (f : Nat → Int64) (k : Nat) (x : Int64) (j : Nat) : vp_updL f k x j = if j = k then x else f j := rfl
/-- all but the groups of S stays -/
def FrG (S : List Nat) (σ σ' : zT) : Prop := (∀ a, a ∉ S → σ'.1 a = σ.1 a ∧ σ'.2.1 a = σ.2.1 a ∧ σ'.2.2.1 a = σ.2.2.1 a) ∧ σ'.2.2.2 = σ.2.2.2
theorem FrG.rf {S : List Nat} {σ : zT} : FrG S σ σ := ⟨fun _ _ => ⟨rfl, rfl, rfl⟩, rfl⟩
theorem FrG.tr {S : List Nat} {a b c : zT} (h : FrG S a b) (h2 : FrG S b c) : FrG S a c :=
  ⟨fun q hq => ⟨(h2.1 q hq).1.trans (h.1 q hq).1, (h2.1 q hq).2.1.trans (h.1 q hq).2.1, (h2.1 q hq).2.2.trans (h.1 q hq).2.2⟩, h2.2.trans h.2⟩
theorem FrG.mono {S S2 : List Nat} {a b : zT} (h : FrG S a b) (hs : ∀ q ∈ S, q ∈ S2) : FrG S2 a b := ⟨fun q hq => h.1 q (fun z => hq (hs q z)), h.2⟩
theorem FrG.uS {S : List Nat} {a σ : zT} {k f : Nat} {v : Int32} (h : FrG S a σ) (hk : k ∈ S) : FrG S a (uS σ k f v) := by
  refine ⟨fun q hq => ⟨?_, (h.1 q hq).2.1, (h.1 q hq).2.2⟩, h.2⟩
  rw [← (h.1 q hq).1]
  funext b
  have : ¬ q = k := fun e => hq (e ▸ hk)
  simp [uS_1, this]
theorem FrG.uA {S : List Nat} {a σ : zT} {k j : Nat} {g : Nat → Int32} (h : FrG S a σ) (hk : k ∈ S) : FrG S a (uA σ k j g) := by
  refine ⟨fun q hq => ⟨(h.1 q hq).1, ?_, (h.1 q hq).2.2⟩, h.2⟩
  rw [← (h.1 q hq).2.1]
  funext b
  have : ¬ q = k := fun e => hq (e ▸ hk)
  simp [uA_2, this]
theorem FrG.uL {S : List Nat} {a σ : zT} {k : Nat} {g : Nat → Int64} (h : FrG S a σ) (hk : k ∈ S) : FrG S a (uL σ k g) := by
  refine ⟨fun q hq => ⟨(h.1 q hq).1, (h.1 q hq).2.1, ?_⟩, h.2⟩
  rw [← (h.1 q hq).2.2]
  have : ¬ q = k := fun e => hq (e ▸ hk)
  simp [uL_3, this]
/-! sums -/
def sumN : Nat → (Nat → Nat) → Nat
  | 0, _ => 0
  | n + 1, g => sumN n g + g n
theorem sumN_congr {n : Nat} {g h : Nat → Nat} (e : ∀ i, i < n → g i = h i) : sumN n g = sumN n h := by
  induction n with
  | zero => rfl
  | succ n ih => rw [sumN, sumN, ih (fun i hi => e i (by omega)), e n (by omega)]
theorem sumN_le {n c : Nat} {g : Nat → Nat} (h : ∀ i, i < n → g i ≤ c) : sumN n g ≤ n * c := by
  induction n with
  | zero => exact Nat.zero_le _
  | succ n ih =>
    have h1 := ih (fun i hi => h i (by omega))
    have h2 := h n (by omega)
    rw [sumN, Nat.succ_mul]
    omega
theorem sumN_up {n m v : Nat} {g : Nat → Nat} (hm : m < n) : sumN n (fun i => if i = m then v else g i) + g m = sumN n g + v := by
  induction n with
  | zero => omega
  | succ n ih =>
    rw [sumN, sumN]
    by_cases h : m = n
    · subst h
      rw [if_pos rfl, sumN_congr (g := fun i => if i = m then v else g i) (h := g) (fun i hi => if_neg (by omega))]
      omega
    · have := ih (by omega)
      rw [if_neg (fun e => h e.symm)]
      omega
theorem sumN_get {n m : Nat} {g : Nat → Nat} (hm : m < n) : g m ≤ sumN n g := by
  have := sumN_up (v := 0) (g := g) hm
  omega
theorem cal_weak {E : zE} {d : Nat} {y : MethodName} {cc : ByteArray} {nL : Nat} {ret : Option FieldType} {args : List Value} {σ : zT} {P P1 : Option Value → zT → Prop} (k : CalM E d y cc nL ret args σ P1) (h : ∀ r σ', P1 r σ' → P r σ') : CalM E d y cc nL ret args σ P := by
  intro l p e ha hc hk s m a below hf happ hP hK
  obtain ⟨n, o, h1, h2, h3, ⟨⟨r, σ', q1, q2, q3⟩, q4⟩, q5⟩ := k l p e ha hc hk s m a below hf happ hP hK
  exact ⟨n, o, h1, h2, h3, ⟨⟨r, σ', q1, h r σ' q2, q3⟩, q4⟩, q5⟩
/-- an int put between 0 and M -/
def clp (v : Int32) (M : Nat) : Nat := if v.toInt < 0 then 0 else if (M : Int) < v.toInt then M else v.toInt.toNat
theorem clp_le (v : Int32) (M : Nat) : clp v M ≤ M := by unfold clp; split; omega; split <;> omega
theorem clp_eq {v : Int32} {M : Nat} (hM : M < 2 ^ 31) : (if v.toInt < 0 then nI 0 else if (M : Int) < v.toInt then nI M else v) = nI (clp v M) := by
  unfold clp
  split
  · rfl
  · split
    · rfl
    · exact nI_of' (by omega)
theorem clp_N {a M : Nat} (ha : a < 2 ^ 31) : clp (nI a) M = if M < a then M else a := by
  unfold clp
  rw [nI_toInt ha]
  split
  · omega
  · split
    · rw [if_pos (by omega)]
    · rw [if_neg (by omega)]; rfl
