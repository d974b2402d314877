/-! the state of all objects of the loop, as numbers: scalars by group and field, rows by group and place, rows of longs by group, the two moving references -/
abbrev zT : Type := (Nat → Nat → Int32) × (Nat → Nat → Nat → Int32) × (Nat → Nat → Int64) × (Nat → Nat)
def uS (σ : zT) (k f : Nat) (v : Int32) : zT := (fun a b => if a = k ∧ b = f then v else σ.1 a b, σ.2)
def uA (σ : zT) (k j : Nat) (g : Nat → Int32) : zT := (σ.1, fun a b => if a = k ∧ b = j then g else σ.2.1 a b, σ.2.2)
def uL (σ : zT) (k : Nat) (g : Nat → Int64) : zT := (σ.1, σ.2.1, fun a => if a = k then g else σ.2.2.1 a, σ.2.2.2)
def uR (σ : zT) (f n : Nat) : zT := (σ.1, σ.2.1, σ.2.2.1, fun a => if a = f then n else σ.2.2.2 a)
/-- what stays while the loop runs: classes and slots, classes of rows, addresses by group and place, the heap's size at the start, the addresses of USUAL and of the texts -/
abbrev zE : Type := va_G × (Nat → ClassId) × (Nat → Nat → Nat) × Nat × Nat × (Nat → Nat) × (Nat → Nat)
def zD (E : zE) : va_G := E.1
def zC (E : zE) : Nat → ClassId := E.2.1
def zA (E : zE) : Nat → Nat → Nat := E.2.2.1
def zS (E : zE) : Nat := E.2.2.2.1
def zU (E : zE) : Nat := E.2.2.2.2.1
def zKs (E : zE) : Nat → Nat := E.2.2.2.2.2.1
def zVs (E : zE) : Nat → Nat := E.2.2.2.2.2.2
def zFr (E : zE) : Nat → Prop := fun q => zS E ≤ q
def zTy (E : zE) : List (ClassId × FieldType) := [(zC E 0, .int), (zC E 1, .long), (zC E 2, .boolean), (zC E 3, .object RX2)]
/-- groups that are Lands, Rules -/
def zL (k : Nat) : Bool := (Nat.ble 6 k && Nat.ble k 8) || (Nat.ble 10 k && Nat.ble k 24) || (Nat.ble 26 k && Nat.ble k 28)
def zRl (k : Nat) : Bool := Nat.beq k 31 || Nat.beq k 32
def zci (k : Nat) : Nat := bif zL k then 2 else bif zRl k then 4 else match k with
  | 0 => 11 | 1 => 8 | 2 => 0 | 3 => 7 | 4 => 10 | 5 => 1 | 9 => 3 | 25 => 6 | 29 => 5 | 30 => 9 | 33 => 12 | _ => 13
def zfT (k : Nat) : List (Nat × Nat × Nat) := bif zL k then [(1, k, 1), (1, k, 2), (0, 0, 0), (0, 0, 0), (0, 0, 0), (0, 0, 0), (0, 0, 0), (0, 0, 0), (0, 0, 0), (0, 0, 0)]
  else bif zRl k then [(1, k, 1), (1, k, 2), (1, k, 3), (1, k, 4), (0, 0, 0), (0, 0, 0), (0, 0, 0), (0, 0, 0), (0, 0, 0)] else match k with
  | 0 => [(1, 1, 0), (1, 2, 0), (1, 3, 0), (1, 4, 0), (1, 5, 0), (1, 6, 0), (1, 7, 0), (1, 8, 0), (1, 9, 0), (1, 25, 0), (1, 29, 0), (1, 30, 0), (1, 0, 1), (1, 0, 2), (2, 0, 0), (2, 0, 0), (0, 0, 0)]
  | 1 => [(1, 1, 1), (0, 0, 0)]
  | 2 => [(1, 2, 1), (1, 2, 2), (0, 0, 0)]
  | 3 => [(1, 3, 1), (0, 0, 0)]
  | 4 => [(1, 4, 1), (1, 4, 2), (0, 0, 0)]
  | 5 => [(1, 2, 0), (1, 3, 0), (1, 5, 1), (0, 0, 0), (0, 0, 0), (0, 0, 0), (0, 0, 0)]
  | 9 => [(1, 9, 1), (0, 0, 0), (0, 0, 0)]
  | 25 => [(1, 25, 1), (0, 0, 0)]
  | 29 => [(1, 29, 1), (1, 29, 2), (0, 0, 0)]
  | 30 => [(1, 30, 1), (0, 0, 0)]
  | 33 => [(0, 0, 0), (0, 0, 0), (1, 33, 1), (0, 0, 0), (0, 0, 0), (0, 0, 0), (0, 0, 0), (1, 33, 2), (1, 33, 3), (1, 33, 4), (1, 33, 5), (1, 33, 6), (1, 33, 7), (1, 33, 8), (1, 33, 9), (0, 0, 0), (0, 0, 0), (0, 0, 0), (0, 0, 0), (1, 33, 10), (0, 0, 0), (1, 33, 11), (1, 33, 12), (0, 0, 0), (0, 0, 0), (1, 33, 13), (1, 33, 14), (0, 0, 0), (0, 0, 0), (0, 0, 0), (1, 33, 15), (1, 33, 16), (1, 33, 17), (1, 33, 18), (1, 33, 19), (0, 0, 0), (1, 33, 20), (1, 33, 21), (0, 0, 0), (0, 0, 0), (1, 33, 22), (1, 33, 23), (1, 33, 24), (0, 0, 0), (1, 33, 25), (1, 33, 26)]
  | _ => []
def zfk (k f : Nat) : Nat × Nat × Nat := (zfT k).getD f (9, 9, 9)
def zaT (k : Nat) : List (Nat × Nat) := bif zL k then [(0, 12), (0, 12)] else bif zRl k then [(0, 40), (0, 40), (0, 40), (0, 5)] else match k with
  | 0 => [(0, 8), (0, 12)] | 1 => [(0, 80)] | 2 => [(0, 8), (0, 8)] | 3 => [(0, 20)] | 4 => [(0, 8), (0, 8)] | 5 => [(0, 12)]
  | 9 => [(3, 15)] | 25 => [(3, 3)] | 29 => [(0, 12), (0, 12)] | 30 => [(1, 12)]
  | 33 => [(1, 24), (0, 20), (0, 8), (0, 8), (0, 8), (0, 8), (0, 29), (0, 29), (0, 80), (0, 20), (0, 80), (0, 80), (0, 80), (0, 5), (0, 464), (0, 12), (0, 60), (0, 60), (0, 60), (0, 12), (0, 12), (0, 12), (0, 12), (0, 80), (2, 3), (0, 87)]
  | 34 => [(1, 1)] | _ => []
def zak (k j : Nat) : Nat × Nat := (zaT k).getD (j - 1) (9, 0)
def zIn (k j : Nat) : Bool := Nat.ble j (zaT k).length && Nat.blt k 35 && !(Nat.beq j 0 && Nat.beq k 34)
def zDom : List (Nat × Nat) := (List.range 35).flatMap (fun k => ((List.range 27).filter (fun j => zIn k j)).map (fun j => (k, j)))
def zval (E : zE) (σ : zT) (k f : Nat) : Value := match zfk k f with
  | (0, _, _) => .int (σ.1 k f)
  | (1, a, b) => .ref (zA E a b)
  | (2, _, _) => .ref (zA E (σ.2.2.2 f) 0)
  | _ => .null
def zarr (E : zE) (σ : zT) (k j : Nat) : va_E := match zak k j with
  | (0, n) => .inl (zC E 0, n, .inl (σ.2.1 k j))
  | (1, n) => .inl (zC E 1, n, .inr (.inl (σ.2.2.1 k)))
  | (2, n) => .inl (zC E 2, n, .inl (σ.2.1 k j))
  | (_, n) => .inl (zC E 3, n, .inr (.inr (.inr (.inr (fun i => if i < n then some (zA E (k + 1 + i) 0) else none)))))
def zenc (E : zE) (σ : zT) (k j : Nat) : va_E := match j with
  | 0 => .inr (zci k, (List.range (zfT k).length).map (zval E σ k))
  | j + 1 => zarr E σ k (j + 1)
def zW (E : zE) (σ : zT) : va_W := zDom.map (fun q => (zA E q.1 q.2, zenc E σ q.1 q.2))
def zP (E : zE) (σ : zT) (H : Heap) : Prop := va_P (zD E) vwCl (zW E σ) H
def zOK (E : zE) : Prop := (∀ p ∈ zDom, ∀ q ∈ zDom, zA E p.1 p.2 = zA E q.1 q.2 → p = q) ∧ ∀ p ∈ zDom, zS E ≤ zA E p.1 p.2
theorem z_nodup : zDom.Nodup := by decide +kernel
theorem z_len : ∀ k, k < 35 → (zaT k).length < 27 := by decide +kernel
theorem z_mem {k j : Nat} (h : zIn k j = true) : (k, j) ∈ zDom := by
  have h0 := h
  simp only [zIn, Bool.and_eq_true] at h
  have h1 : k < 35 := by simpa [Nat.blt_eq] using h.1.2
  have h2 : j ≤ (zaT k).length := by simpa using h.1.1
  have h3 := z_len k h1
  refine List.mem_flatMap.mpr ⟨k, List.mem_range.mpr h1, List.mem_map.mpr ⟨j, List.mem_filter.mpr ⟨List.mem_range.mpr (by omega), h0⟩, rfl⟩⟩
theorem z_at (E : zE) (σ : zT) {k j : Nat} (h : zIn k j = true) : ∃ i : Nat, zDom[i]? = some (k, j) ∧ (zW E σ)[i]? = some (zA E k j, zenc E σ k j) := by
  obtain ⟨i, hi⟩ := List.mem_iff_getElem?.mp (z_mem h)
  exact ⟨i, hi, by simp [zW, hi]⟩
theorem z_D {E : zE} (σ : zT) (hE : zOK E) : va_D (zFr E) (zW E σ) := by
  have key : ∀ (i : Nat) (p : Nat × va_E), (zW E σ)[i]? = some p → ∃ q, zDom[i]? = some q ∧ p.1 = zA E q.1 q.2 := by
    intro i p h
    simp only [zW, List.getElem?_map] at h
    cases hq : zDom[i]? with
    | none => rw [hq] at h; cases h
    | some q => rw [hq] at h; cases h; exact ⟨q, rfl, rfl⟩
  refine ⟨fun i j p q hp hq e => ?_, fun k q hq => ?_⟩
  · obtain ⟨a, ha, ea⟩ := key i p hp
    obtain ⟨b, hb, eb⟩ := key j q hq
    have hab := hE.1 a (List.mem_of_getElem? ha) b (List.mem_of_getElem? hb) (by rw [← ea, ← eb]; exact e)
    subst hab
    have hi : i < zDom.length := (List.getElem?_eq_some_iff.mp ha).1
    exact (List.getElem?_inj hi z_nodup).mp (by rw [ha, hb])
  · obtain ⟨a, ha, ea⟩ := key k q hq
    show zS E ≤ q.1
    rw [ea]
    exact hE.2 a (List.mem_of_getElem? ha)
theorem z_set {E : zE} {σ σ' : zT} {k j i : Nat} (hi : zDom[i]? = some (k, j)) (hs : ∀ a b, ¬ (a = k ∧ b = j) → zenc E σ' a b = zenc E σ a b) : (zW E σ).set i (zA E k j, zenc E σ' k j) = zW E σ' := by
  have hil : i < zDom.length := (List.getElem?_eq_some_iff.mp hi).1
  apply List.ext_getElem?
  intro n
  rw [List.getElem?_set]
  by_cases hn : i = n
  · subst hn
    have hl2 : i < (zW E σ).length := by simpa [zW] using hil
    rw [if_pos rfl, if_pos hl2]
    simp only [zW, List.getElem?_map, hi, Option.map_some]
  · rw [if_neg hn]
    simp only [zW, List.getElem?_map]
    cases hq : zDom[n]? with
    | none => rfl
    | some q =>
      have hne : ¬ (q.1 = k ∧ q.2 = j) := by
        intro e
        have e2 : q = (k, j) := Prod.ext e.1 e.2
        exact hn ((List.getElem?_inj hil z_nodup).mp (by rw [hi, hq, e2]))
      simp [hs _ _ hne]
theorem z_uS {E : zE} {σ : zT} {k f : Nat} {v : Int32} : ∀ a b, ¬ (a = k ∧ b = 0) → zenc E (uS σ k f v) a b = zenc E σ a b := by
  intro a b h
  cases b with
  | succ b => rfl
  | zero =>
    have ha : ¬ a = k := fun e => h ⟨e, rfl⟩
    simp only [zenc]
    congr 2
    apply List.map_congr_left
    intro g _
    simp [zval, uS, ha]
theorem z_uA {E : zE} {σ : zT} {k j : Nat} {g : Nat → Int32} : ∀ a b, ¬ (a = k ∧ b = j) → zenc E (uA σ k j g) a b = zenc E σ a b := by
  intro a b h
  cases b with
  | zero => rfl
  | succ b =>
    simp only [zenc, zarr, uA]
    rw [if_neg h]
theorem z_uL {E : zE} {σ : zT} {k : Nat} {j : Nat} (hj : ∀ b, b + 1 ≠ j → (zak k (b + 1)).1 ≠ 1) {g : Nat → Int64} : ∀ a b, ¬ (a = k ∧ b = j) → zenc E (uL σ k g) a b = zenc E σ a b := by
  intro a b h
  cases b with
  | zero => rfl
  | succ b =>
    by_cases ha : a = k
    · subst ha
      have hb := hj b (fun e => h ⟨rfl, e⟩)
      simp only [zenc, zarr]
      generalize hq : zak a (b + 1) = q at hb ⊢
      obtain ⟨t, n⟩ := q
      match t, hb with
      | 0, _ => rfl
      | 1, hb => exact absurd rfl hb
      | 2, _ => rfl
      | t + 3, _ => rfl
    · simp only [zenc, zarr, uL]
      rw [if_neg ha]
theorem z_fT2 (a : Nat) (h : a ≠ 0) : ∀ q ∈ zfT a, q.1 ≠ 2 := by
  unfold zfT
  cases zL a
  · cases zRl a
    · simp only [cond_false]
      split <;> first | exact absurd rfl h | decide
    · simp
  · simp
theorem z_fk2 (a f : Nat) (h : a ≠ 0) : (zfk a f).1 ≠ 2 := by
  unfold zfk
  rw [List.getD_eq_getElem?_getD]
  cases hq : (zfT a)[f]? with
  | none => decide
  | some q => exact z_fT2 a h q (List.mem_of_getElem? hq)
theorem z_uR {E : zE} {σ : zT} {f n : Nat} : ∀ a b, ¬ (a = 0 ∧ b = 0) → zenc E (uR σ f n) a b = zenc E σ a b := by
  intro a b h
  cases b with
  | succ b => rfl
  | zero =>
    have ha : a ≠ 0 := fun e => h ⟨e, rfl⟩
    simp only [zenc]
    congr 2
    apply List.map_congr_left
    intro g _
    have hb := z_fk2 a g ha
    simp only [zval]
    generalize hq : zfk a g = q at hb ⊢
    obtain ⟨t, x, y⟩ := q
    match t, hb with
    | 0, _ => rfl
    | 1, _ => rfl
    | 2, hb => exact absurd rfl hb
    | t + 3, _ => rfl
/-- an object's field -/
theorem z_obj (E : zE) (σ : zT) (k f : Nat) (hf : f < (zfT k).length) : ((List.range (zfT k).length).map (zval E σ k))[f]? = some (zval E σ k f) := by
  simp [hf]
theorem z_objS {E : zE} {σ : zT} {k f : Nat} {v : Int32} (hf : zfk k f = (0, 0, 0)) : zenc E (uS σ k f v) k 0 = .inr (zci k, ((List.range (zfT k).length).map (zval E σ k)).set f (.int v)) := by
  simp only [zenc]
  congr 2
  apply List.ext_getElem?
  intro n
  rw [List.getElem?_set]
  by_cases hn : f = n
  · subst hn
    rw [if_pos rfl]
    by_cases hl : f < (zfT k).length
    · simp [hl, zval, hf, uS]
    · simp [hl]
  · rw [if_neg hn]
    by_cases hl : n < (zfT k).length
    · have hn' : ¬ n = f := fun e => hn e.symm
      simp [hl, zval, uS, hn']
    · simp [hl]
theorem z_objR {E : zE} {σ : zT} {f n : Nat} (hf : zfk 0 f = (2, 0, 0)) : zenc E (uR σ f n) 0 0 = .inr (zci 0, ((List.range (zfT 0).length).map (zval E σ 0)).set f (.ref (zA E n 0))) := by
  simp only [zenc]
  congr 2
  apply List.ext_getElem?
  intro j
  rw [List.getElem?_set]
  by_cases hn : f = j
  · subst hn
    rw [if_pos rfl]
    by_cases hl : f < (zfT 0).length
    · simp [hl, zval, hf, uR]
    · simp [hl]
  · rw [if_neg hn]
    by_cases hl : j < (zfT 0).length
    · have hn' : ¬ j = f := fun e => hn e.symm
      simp [hl, zval, uR, hn']
    · simp [hl]
theorem z_aT : ∀ k, ∀ q ∈ zaT k, q.2 < 2 ^ 31 := by
  intro k
  unfold zaT
  cases zL k
  · cases zRl k
    · simp only [cond_false]
      split <;> decide
    · simp only [cond_true, cond_false]
      decide
  · simp only [cond_true]
    decide
theorem z_ak (k j : Nat) : (zak k j).2 < 2 ^ 31 := by
  unfold zak
  rw [List.getD_eq_getElem?_getD]
  cases hq : (zaT k)[j - 1]? with
  | none => decide
  | some q => exact z_aT k q (List.mem_of_getElem? hq)
/-! locals as a list by their numbers, in order -/
def zKeep (i : Nat) (q : Nat × Value) : Bool := !(q.1 == i) && !(q.1 + 1 == i && q.2.category == 2)
def zKeep2 (i : Nat) (q : Nat × Value) : Bool := !(q.1 == i) && (!(q.1 == i + 1) && !(q.1 + 1 == i && q.2.category == 2))
def zFil (b : Nat × Value → Bool) : List (Nat × Value) → List (Nat × Value)
  | [] => []
  | q :: t => match b q with
    | true => q :: zFil b t
    | false => zFil b t
def zIns (b : Nat × Value → Bool) (i : Nat) (v : Value) : List (Nat × Value) → List (Nat × Value)
  | [] => [(i, v)]
  | q :: t => match Nat.blt q.1 i with
    | true => (match b q with
      | true => q :: zIns b i v t
      | false => zIns b i v t)
    | false => (i, v) :: zFil b (q :: t)
def zSt1 (lv : List (Nat × Value)) (i : Nat) (v : Value) : List (Nat × Value) := zIns (zKeep i) i v lv
def zSt2 (lv : List (Nat × Value)) (i : Nat) (v : Value) : List (Nat × Value) := zIns (zKeep2 i) i v lv
def zLk : List (Nat × Value) → Nat → Option Value
  | [], _ => none
  | q :: t, i => match Nat.beq q.1 i with
    | true => some q.2
    | false => zLk t i
theorem z_fil {b : Nat × Value → Bool} {lv : List (Nat × Value)} : ∀ q ∈ zFil b lv, q ∈ lv.filter b := by
  induction lv with
  | nil => intro q h; cases h
  | cons a t ih =>
    intro q h
    unfold zFil at h
    cases hb : b a with
    | true =>
      rw [hb] at h
      rcases List.mem_cons.mp h with h | h
      · rw [h, List.filter_cons, hb]; exact List.mem_cons_self
      · rw [List.filter_cons, hb]; exact List.mem_cons_of_mem _ (ih q h)
    | false =>
      rw [hb] at h
      rw [List.filter_cons, hb]
      exact ih q h
theorem z_ins {b : Nat × Value → Bool} {i : Nat} {v : Value} {lv : List (Nat × Value)} : ∀ q ∈ zIns b i v lv, q ∈ (i, v) :: lv.filter b := by
  induction lv with
  | nil => intro q h; exact h
  | cons a t ih =>
    intro q h
    unfold zIns at h
    cases hl : Nat.blt a.1 i with
    | true =>
      rw [hl] at h
      cases hb : b a with
      | true =>
        simp only [hb] at h
        rcases List.mem_cons.mp h with h | h
        · rw [h, List.filter_cons, hb]; exact List.mem_cons_of_mem _ List.mem_cons_self
        · rcases List.mem_cons.mp (ih q h) with h2 | h2
          · rw [h2]; exact List.mem_cons_self
          · rw [List.filter_cons, hb]; exact List.mem_cons_of_mem _ (List.mem_cons_of_mem _ h2)
      | false =>
        simp only [hb] at h
        rw [List.filter_cons, hb]
        exact ih q h
    | false =>
      rw [hl] at h
      rcases List.mem_cons.mp h with h | h
      · rw [h]; exact List.mem_cons_self
      · exact List.mem_cons_of_mem _ (z_fil q h)
theorem z_zSt1 {ls : Array Slot} {nL i : Nat} {v : Value} {lv : List (Nat × Value)} (h : lv_has ls nL ((i, v) :: lv.filter (fun q => !(q.1 == i) && !(q.1 + 1 == i && q.2.category == 2)))) : lv_has ls nL (zSt1 lv i v) :=
  ⟨h.1, h.2.1, fun q hq => h.2.2 q (z_ins (b := zKeep i) q hq)⟩
theorem z_zSt2 {ls : Array Slot} {nL i : Nat} {v : Value} {lv : List (Nat × Value)} (h : lv_has ls nL ((i, v) :: lv.filter (fun q => !(q.1 == i) && (!(q.1 == i + 1) && !(q.1 + 1 == i && q.2.category == 2))))) : lv_has ls nL (zSt2 lv i v) :=
  ⟨h.1, h.2.1, fun q hq => h.2.2 q (z_ins (b := zKeep2 i) q hq)⟩
theorem z_lkp {lv : List (Nat × Value)} {i : Nat} {v : Value} (h : zLk lv i = some v) : ∃ n : Nat, lv[n]? = some (i, v) := by
  induction lv with
  | nil => cases h
  | cons a t ih =>
    unfold zLk at h
    cases hb : Nat.beq a.1 i with
    | true =>
      rw [hb] at h
      have e1 : a.1 = i := Nat.eq_of_beq_eq_true hb
      have e2 : a.2 = v := Option.some.inj h
      exact ⟨0, by rw [← e1, ← e2]; rfl⟩
    | false =>
      rw [hb] at h
      obtain ⟨n, hn⟩ := ih h
      exact ⟨n + 1, hn⟩
theorem z_lk {ls : Array Slot} {nL : Nat} {lv : List (Nat × Value)} {i : Nat} {v : Value} (h : lv_has ls nL lv) (hv : zLk lv i = some v) : ls[i]? = some (.val v) := by
  obtain ⟨n, hn⟩ := z_lkp hv
  exact lv_at h n hn
/-! what is given of the machine beside the objects: links between nest mates, USUAL, the texts -/
def zUs (j : Nat) : Int32 := ([-1, 5, -7, -2, 10, -7, -9] : List Int32).getD j 0
def zLen : List Nat := [11, 4, 5, 3, 2, 2, 6, 12]
def zByt : List (List Int32) := [[48, 49, 50, 51, 52, 53, 54, 55, 56, 57, 71], [102, 100, 114, 97], [104, 103, 108, 119, 110], [60, 62, 61], [43, 45], [42, 47], [119, 109, 112, 103, 99, 100], [97, 98, 99, 100, 101, 102, 103, 104, 105, 106, 107, 108]]
def zTx : List (Nat × String) := [(175, "0123456789G"), (184, "fdra"), (216, "hglwn"), (221, "<>="), (223, "+-"), (225, "*/"), (343, "wmpgcd"), (345, "abcdefghijkl")]
def zF (E : zE) (U : State) (H : Heap) : Prop :=
  va_Nw (.methodLinkNest RX2 85 yX11_within RX11) U ∧ va_Nw (.methodLinkNest RX4 102 yX11_within RX11) U ∧ va_Nw (.methodLinkNest RX8 23 yX11_isDigit RX11) U ∧
  va_Z RX4 "USUAL" "[I" (.ref (zU E)) (zFr E) U H ∧ va_T .int (zU E) 7 (fun j => .int (zUs j)) (zFr E) U H ∧
  va_Z "java/lang/String" "COMPACT_STRINGS" "Z" (.int 1) (zFr E) U H ∧ vk_S 8 zLen zByt (zKs E) (zVs E) (zFr E) U H ∧
  (∀ (i k : Nat) (tx : String), zTx[i]? = some (k, tx) → vk_R RX12 k tx (zKs E i) U) ∧ va_Zq "jdk/internal/util/Preconditions" "SIOOBE_FORMATTER" "Ljava/util/function/BiFunction;" (zFr E) U H
theorem zF.to {E : zE} {s U : State} {H : Heap} (h : zF E s s.heap) (hW : s.WarmedH U.vm) (hq : ∀ a : Nat, a < s.heap.size → ¬ zFr E a → H[a]? = s.heap[a]?) : zF E U H :=
  ⟨h.1.warmM hW, h.2.1.warmM hW, h.2.2.1.warmM hW, (h.2.2.2.1.kept hq).moved hW.alike, (h.2.2.2.2.1.kept hq).moved hW.alike, (h.2.2.2.2.2.1.kept hq).moved hW.alike, (h.2.2.2.2.2.2.1.kept hq).moved hW.alike, fun i k tx e => (h.2.2.2.2.2.2.2.1 i k tx e).warm hW, va_Zq.moved hW.alike (va_Zq.kept h.2.2.2.2.2.2.2.2 hq)⟩
theorem zF.same {E : zE} {s U : State} {H : Heap} (h : zF E s H) (hv : s.vm = U.vm) : zF E U H :=
  have ha : s.vm.Alike U.vm := hv ▸ Vm.Alike.refl s.vm
  ⟨h.1.same rfl hv, h.2.1.same rfl hv, h.2.2.1.same rfl hv, h.2.2.2.1.moved ha, h.2.2.2.2.1.moved ha, h.2.2.2.2.2.1.moved ha, h.2.2.2.2.2.2.1.moved ha, fun i k tx e => (h.2.2.2.2.2.2.2.1 i k tx e).same hv.symm, va_Zq.moved ha h.2.2.2.2.2.2.2.2⟩
/-! the judgements -/
def zRm (d : Nat) : Room := { frames := d, cells := 0, slots := 0, locals := 48 * d }
def zCx (E : zE) (own : String) (cc : ByteArray) (nL : Nat) (ret : Option FieldType) (p : Program) (s : State) (m : MethodId) (args : Array Value) (meth : Method) (c : Code) : Prop :=
  p.tables.exec = Jvm.exec ∧ c.code = cc ∧ c.maxLocals = nL ∧ meth.sig.returnType = ret ∧ meth.locks = false ∧ s.vm.findClass own = some m.cls ∧ (∀ w ∈ zG, w.before args s = true) ∧ va_K (zD E) vwCl (zTy E) s ∧ zS E ≤ s.heap.size ∧ zOK E ∧ zF E s s.heap
def zQ (E : zE) (P : Option Value → zT → Prop) : Array Value → State → Outcome → State → Prop := fun _ st oc t =>
  (∃ (r : Option Value) (σ : zT), oc = .returned r ∧ P r σ ∧ zP E σ t.heap) ∧ va_F (zFr E) st t
def GoM (E : zE) (d : Nat) (own : String) (cc : ByteArray) (nL : Nat) (ret : Option FieldType) (P : Option Value → zT → Prop) (σ : zT) (pc : Nat) (lv : List (Nat × Value)) (st : List Value) : Prop :=
  ∀ (l : Launch) (p : Program) (e : Env) (s : State) (m : MethodId) (args : Array Value) (below : List Frame) (meth : Method) (c : Code) (H : Heap) (locs : List Loc) (ls : Array Slot),
    zCx E own cc nL ret p s m args meth c → lv_has ls nL lv → zP E σ H → va_S (zFr E) s.heap H locs →
    W p l e (zRm d) s m args below meth c H locs 0 0 (MQ below (zQ E P) args s 0 0 (zFr E)) (F0 m pc ls st)
def zPre (E : zE) (σ : zT) (U : State) : Prop := zP E σ U.heap ∧ va_K (zD E) vwCl (zTy E) U ∧ zS E ≤ U.heap.size ∧ zOK E ∧ zF E U U.heap
def CalM (E : zE) (d : Nat) (y : MethodName) (cc : ByteArray) (nL : Nat) (ret : Option FieldType) (args : List Value) (σ : zT) (P : Option Value → zT → Prop) : Prop :=
  ∀ l : Launch, Met l y (.code y cc nL ret :: zG) (zRm d) (va_Pc args (zPre E σ)) (zQ E P) 0 0 (zFr E)
