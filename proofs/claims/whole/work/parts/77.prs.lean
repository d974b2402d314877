/-! rules of danger: the reference's reader (by ranks) and the class's (two piles), as pure functions, and that they agree -/
def upc (c : Nat → Bool) (d : Nat) (v : Bool) (j : Nat) : Bool := if j = d then v else c j
/-- the reference: fuel, mode (0, 1, 2 ranks; 3 a thing; 4, 5, 6 what follows in ranks 0, 1, 2), depth, place; answer: good, place, depth, codes -/
def rP (f : Nat → Nat) (lim : Nat) : Nat → Nat → Nat → Nat → Option (Bool × Nat × Nat × List Nat)
  | 0, _, _, _ => none
  | F + 1, m, n, p =>
    if m = 3 then
      if p < lim ∧ f p = 45 then
        match rP f lim F 3 n (p + 1) with
        | none => none
        | some (b, q, n2, o) => some (b, q, n2, o ++ [3000])
      else if p < lim ∧ 48 ≤ f p ∧ f p ≤ 57 then some (true, p + tDig f lim p 3, n, [tNum f p (tDig f lim p 3) 0])
      else match amA 2 f p lim with
        | some a => some (true, p + 1, n, [1000 + a])
        | none =>
          if n = 4 ∨ ¬ (p < lim ∧ f p = 40) then some (false, p, n, [])
          else match rP f lim F 0 (n + 1) (p + 1) with
            | none => none
            | some (b, q, n2, o) => if b = true ∧ q < lim ∧ f q = 41 then some (true, q + 1, n2 - 1, o) else some (false, q, n2, o)
    else if m < 3 then
      match rP f lim F (m + 1) n p with
      | none => none
      | some (b, q, n2, o) =>
        if b = true then
          match rP f lim F (m + 4) n2 q with
          | none => none
          | some (b2, q2, n3, o2) => some (b2, q2, n3, o ++ o2)
        else some (false, q, n2, o)
    else match amA (m - 1) f p lim with
      | none => some (true, p, n, [])
      | some a =>
        match rP f lim F (m - 3) n (p + 1) with
        | none => none
        | some (b, q, n2, o) =>
          if b = true then
            if m = 4 then some (true, q, n2, o ++ [2000 + a])
            else match rP f lim F m n2 q with
              | none => none
              | some (b2, q2, n3, o2) => some (b2, q2, n3, o ++ [2000 + a + (if m = 5 then 3 else 5)] ++ o2)
          else some (false, q, n2, o)
theorem am2 (v : Nat) : am 2 v = if v = 104 then some 0 else if v = 103 then some 1 else if v = 108 then some 2 else if v = 119 then some 3 else if v = 110 then some 4 else none := by
  show (if (104 : Nat) = v then some 0 else if (103 : Nat) = v then some 1 else if (108 : Nat) = v then some 2 else if (119 : Nat) = v then some 3 else if (110 : Nat) = v then some 4 else none) = _
  simp only [eq_comm]
theorem am3 (v : Nat) : am 3 v = if v = 60 then some 0 else if v = 62 then some 1 else if v = 61 then some 2 else none := by
  show (if (60 : Nat) = v then some 0 else if (62 : Nat) = v then some 1 else if (61 : Nat) = v then some 2 else none) = _
  simp only [eq_comm]
theorem am4 (v : Nat) : am 4 v = if v = 43 then some 0 else if v = 45 then some 1 else none := by
  show (if (43 : Nat) = v then some 0 else if (45 : Nat) = v then some 1 else none) = _
  simp only [eq_comm]
theorem am5 (v : Nat) : am 5 v = if v = 42 then some 0 else if v = 47 then some 1 else none := by
  show (if (42 : Nat) = v then some 0 else if (47 : Nat) = v then some 1 else none) = _
  simp only [eq_comm]
/-- the act that a sign tells -/
def acT (v : Nat) : Option Nat := if v = 60 then some 2000 else if v = 62 then some 2001 else if v = 61 then some 2002 else if v = 43 then some 2003 else if v = 45 then some 2004 else if v = 42 then some 2005 else if v = 47 then some 2006 else none
def rkT (t : Nat) : Nat := if t = 3000 then 4 else if t = 2005 ∨ t = 2006 then 3 else if t = 2003 ∨ t = 2004 then 2 else if t = 2000 ∨ t = 2001 ∨ t = 2002 then 1 else 0
def popS (r : Nat) : List Nat → List Nat → List Nat × List Nat
  | [], S => ([], S)
  | a :: W, S => if r ≤ rkT a then popS r W (S ++ [a]) else (a :: W, S)
/-- the class: place, a thing is due, waiting, steps, depth, compared -/
abbrev mC := Nat × Bool × List Nat × List Nat × Nat × (Nat → Bool)
def mT (f : Nat → Nat) (lim p : Nat) (W S : List Nat) (d : Nat) (c : Nat → Bool) : Option mC :=
  if 0 < tDig f lim p 3 then some (p + tDig f lim p 3, false, W, S ++ [tNum f p (tDig f lim p 3) 0], d, c)
  else if f p = 45 then some (p + 1, true, 3000 :: W, S, d, c)
  else if f p = 40 ∧ d < 4 then some (p + 1, true, 4000 :: W, S, d + 1, upc c (d + 1) false)
  else match am 2 (f p) with
    | some a => some (p + 1, false, W, S ++ [1000 + a], d, c)
    | none => none
def mA (f : Nat → Nat) (p : Nat) (W S : List Nat) (d : Nat) (c : Nat → Bool) : Option mC :=
  if f p = 41 ∧ 0 < d then some (p + 1, false, (popS 1 W S).1.tail, (popS 1 W S).2, d - 1, c)
  else match acT (f p) with
    | none => none
    | some t => if rkT t = 1 then (if c d = true then none else some (p + 1, true, t :: (popS 1 W S).1, (popS 1 W S).2, d, upc c d true))
      else some (p + 1, true, t :: (popS (rkT t) W S).1, (popS (rkT t) W S).2, d, c)
def mS (f : Nat → Nat) (lim : Nat) (x : mC) : Option mC := if x.2.1 = true then mT f lim x.1 x.2.2.1 x.2.2.2.1 x.2.2.2.2.1 x.2.2.2.2.2 else mA f x.1 x.2.2.1 x.2.2.2.1 x.2.2.2.2.1 x.2.2.2.2.2
theorem mS_t {f : Nat → Nat} {lim p : Nat} {W S : List Nat} {d : Nat} {c : Nat → Bool} : mS f lim (p, true, W, S, d, c) = mT f lim p W S d c := rfl
theorem mS_a {f : Nat → Nat} {lim p : Nat} {W S : List Nat} {d : Nat} {c : Nat → Bool} : mS f lim (p, false, W, S, d, c) = mA f p W S d c := rfl
/-- what comes out: (0, place of the fault, _) or (1, _, steps) -/
def mE (lim : Nat) (x : mC) : Nat × Nat × List Nat := if x.2.1 = true ∨ 0 < x.2.2.2.2.1 then (0, lim, []) else (1, 0, (popS 1 x.2.2.1 x.2.2.2.1).2)
def mF0 (f : Nat → Nat) (lim : Nat) : Nat → mC → Nat × Nat × List Nat
  | 0, x => mE lim x
  | F + 1, x => if lim ≤ x.1 then mE lim x else match mS f lim x with | none => (0, x.1, []) | some y => mF0 f lim F y
def mQq (f : Nat → Nat) (lim : Nat) (x : mC) : Nat × Nat × List Nat := mF0 f lim (lim - x.1) x
theorem mS_up {f : Nat → Nat} {lim : Nat} {x y : mC} (h : mS f lim x = some y) : x.1 < y.1 := by
  unfold mS mT mA at h
  split at h
  · split at h
    · cases h; show x.1 < x.1 + _; omega
    · split at h
      · cases h; exact Nat.lt_succ_self _
      · split at h
        · cases h; exact Nat.lt_succ_self _
        · split at h
          · cases h; exact Nat.lt_succ_self _
          · cases h
  · split at h
    · cases h; exact Nat.lt_succ_self _
    · split at h
      · cases h
      · split at h
        · split at h
          · cases h
          · cases h; exact Nat.lt_succ_self _
        · cases h; exact Nat.lt_succ_self _
theorem mF0_eq {f : Nat → Nat} {lim : Nat} : ∀ (F G : Nat) (x : mC), lim - x.1 ≤ F → lim - x.1 ≤ G → mF0 f lim F x = mF0 f lim G x
  | 0, 0, _, _, _ => rfl
  | 0, G + 1, x, h, _ => by rw [mF0, mF0, if_pos (by omega)]
  | F + 1, 0, x, _, h => by rw [mF0, mF0, if_pos (by omega)]
  | F + 1, G + 1, x, h1, h2 => by
    rw [mF0, mF0]
    by_cases h : lim ≤ x.1
    · rw [if_pos h, if_pos h]
    · rw [if_neg h, if_neg h]
      cases e : mS f lim x with
      | none => rfl
      | some y =>
        have := mS_up e
        exact mF0_eq F G y (by omega) (by omega)
theorem mQq_e {f : Nat → Nat} {lim : Nat} {x : mC} (h : lim ≤ x.1) : mQq f lim x = mE lim x := by
  unfold mQq
  rw [show lim - x.1 = 0 by omega, mF0]
theorem mQq_n {f : Nat → Nat} {lim : Nat} {x : mC} (h : x.1 < lim) (e : mS f lim x = none) : mQq f lim x = (0, x.1, []) := by
  unfold mQq
  rw [show lim - x.1 = (lim - x.1 - 1) + 1 by omega, mF0, if_neg (by omega), e]
theorem mQq_s {f : Nat → Nat} {lim : Nat} {x y : mC} (h : x.1 < lim) (e : mS f lim x = some y) : mQq f lim x = mQq f lim y := by
  have := mS_up e
  unfold mQq
  rw [show lim - x.1 = (lim - x.1 - 1) + 1 by omega, mF0, if_neg (by omega), e]
  exact mF0_eq _ _ _ (by omega) (by omega)
/-- no act of a rank above k stands at q -/
def NA (f : Nat → Nat) (lim k q : Nat) : Prop := q < lim → ∀ t, acT (f q) = some t → rkT t ≤ k
theorem acT_rk {v t : Nat} (h : acT v = some t) : 1 ≤ rkT t ∧ rkT t ≤ 3 := by
  unfold acT at h
  repeat' split at h
  all_goals (cases h; try decide)
theorem mQq_pop {f : Nat → Nat} {lim q a : Nat} {W S : List Nat} {d : Nat} {c : Nat → Bool} (ha : 1 ≤ rkT a) (hN : NA f lim (rkT a) q) : mQq f lim (q, false, a :: W, S, d, c) = mQq f lim (q, false, W, S ++ [a], d, c) := by
  have hp : ∀ r, r ≤ rkT a → popS r (a :: W) S = popS r W (S ++ [a]) := fun r hr => by rw [popS, if_pos hr]
  by_cases hq : lim ≤ q
  · rw [mQq_e hq, mQq_e hq]
    unfold mE
    dsimp only
    rw [hp 1 ha]
  · have hE : mS f lim (q, false, a :: W, S, d, c) = mS f lim (q, false, W, S ++ [a], d, c) := by
      rw [mS_a, mS_a]
      unfold mA
      rw [hp 1 ha]
      cases e : acT (f q) with
      | none => rfl
      | some t => dsimp only; rw [hp (rkT t) (hN (by omega) t e)]
    cases e : mS f lim (q, false, W, S ++ [a], d, c) with
    | none => rw [mQq_n (by dsimp only; omega) e, mQq_n (by dsimp only; omega) (hE.trans e)]
    | some y => rw [mQq_s (by dsimp only; omega) e, mQq_s (by dsimp only; omega) (hE.trans e)]
def TopLe (r : Nat) : List Nat → Prop
  | [] => True
  | a :: _ => rkT a ≤ r
theorem pop_top {r : Nat} {W S : List Nat} (h : TopLe r W) : popS (r + 1) W S = (W, S) := by
  cases W with
  | nil => rfl
  | cons a W => rw [popS, if_neg (by have : rkT a ≤ r := h; omega)]
theorem TopLe.up {r s : Nat} {W : List Nat} (h : TopLe r W) (hr : r ≤ s) : TopLe s W := by
  cases W with
  | nil => trivial
  | cons a W => exact Nat.le_trans h hr
theorem dpL_app : ∀ (xs ys : List Nat) (d d2 : Nat), dpL xs d = some d2 → dpL (xs ++ ys) d = dpL ys d2
  | [], ys, d, d2, h => by cases h; rfl
  | x :: xs, ys, d, d2, h => by
    rw [dpL] at h
    rw [List.cons_append, dpL]
    cases e : dpT x d with
    | none => rw [e] at h; cases h
    | some d3 => rw [e] at h; exact dpL_app xs ys d3 d2 h
/-- what a mode's answer always keeps -/
def rG (lim m n p : Nat) (b : Bool) (q n2 : Nat) (o : List Nat) : Prop :=
  p ≤ q ∧ q ≤ lim ∧ o.length ≤ q - p ∧ n ≤ n2 ∧ n2 ≤ 4 ∧ (∀ t ∈ o, tokOK t) ∧ (b = true → n2 = n ∧ (m ≤ 3 → p < q ∧ ∀ d, dpL o d = some (d + 1)) ∧ (4 ≤ m → ∀ d, dpL o (d + 1) = some (d + 1)))
theorem tok_n {f : Nat → Nat} {lim p : Nat} : tNum f p (tDig f lim p 3) 0 < 1000 := by
  have h1 := tNum_b (f := f) (a := p) (tDig f lim p 3) (fun i hi => (tDig_in hi).2.2)
  have h2 : 10 ^ tDig f lim p 3 ≤ 10 ^ 3 := Nat.pow_le_pow_right (by decide) (tDig_le _ _ _ _)
  omega
theorem tDig_p {f : Nat → Nat} {lim p : Nat} (h : p < lim ∧ 48 ≤ f p ∧ f p ≤ 57) : 0 < tDig f lim p 3 ∧ p + tDig f lim p 3 ≤ lim := by
  have h0 : 0 < tDig f lim p 3 := by rw [tDig, if_pos h]; omega
  have h1 := tDig_in (f := f) (lim := lim) (a := p) (m := 3) (i := tDig f lim p 3 - 1) (by omega)
  omega
theorem dp_n {t : Nat} (h : t < 2000) (d : Nat) : dpL [t] d = some (d + 1) := by
  rw [dpL, dpT, if_pos h]
  rfl
theorem dp_3 (d : Nat) : dpL [3000] (d + 1) = some (d + 1) := by
  rw [dpL, dpT, if_neg (by decide), if_pos rfl, if_pos (by omega)]
  rfl
theorem dp_a {t : Nat} (h : 2000 ≤ t ∧ t < 2007) (d : Nat) : dpL [t] (d + 2) = some (d + 1) := by
  rw [dpL, dpT, if_neg (by omega), if_neg (by omega), if_pos (by omega)]
  rfl
theorem amA_2 {f : Nat → Nat} {p lim a : Nat} (h : amA 2 f p lim = some a) : p < lim ∧ a < 5 ∧ am 2 (f p) = some a := by
  unfold amA at h
  split at h
  · rename_i hl; exact ⟨hl, amF_lt h, h⟩
  · cases h
theorem rP_tot {f : Nat → Nat} {lim : Nat} : ∀ F m n p : Nat, m ≤ 6 → n ≤ 4 → p ≤ lim → 4 * (lim - p) + (3 - m) + 1 ≤ F → ∃ b q n2 o, rP f lim F m n p = some (b, q, n2, o) ∧ rG lim m n p b q n2 o := by
  intro F
  induction F with
  | zero => intro m n p _ _ _ h; omega
  | succ F ih =>
    intro m n p hm hn hp hF
    rw [rP]
    by_cases h3 : m = 3
    · rw [if_pos h3]
      by_cases h45 : p < lim ∧ f p = 45
      · rw [if_pos h45]
        obtain ⟨b, q, n2, o, e, g1, g2, g3, g4, g5, g6, g7⟩ := ih 3 n (p + 1) (by decide) hn (by omega) (by omega)
        rw [e]
        refine ⟨b, q, n2, _, rfl, by omega, g2, by rw [List.length_append]; simp only [List.length_cons, List.length_nil]; omega, g4, g5, ?_, fun hb => ⟨(g7 hb).1, fun _ => ⟨by omega, fun d => ?_⟩, fun h => by omega⟩⟩
        · intro t ht
          rcases List.mem_append.mp ht with h | h
          · exact g6 t h
          · rw [List.mem_singleton.mp h]; exact Or.inr (Or.inr rfl)
        · rw [dpL_app _ _ _ _ (((g7 hb).2.1 (by decide)).2 d)]
          exact dp_3 d
      · rw [if_neg h45]
        by_cases hd : p < lim ∧ 48 ≤ f p ∧ f p ≤ 57
        · rw [if_pos hd]
          have h1 := tDig_p hd
          have h2 := tok_n (f := f) (lim := lim) (p := p)
          refine ⟨_, _, _, _, rfl, by omega, h1.2, by simp only [List.length_cons, List.length_nil]; omega, Nat.le_refl _, hn, ?_, fun _ => ⟨rfl, fun _ => ⟨by omega, fun d => dp_n (by omega) d⟩, fun h => by omega⟩⟩
          intro t ht
          rw [List.mem_singleton.mp ht]; exact Or.inl (by omega)
        · rw [if_neg hd]
          cases ea : amA 2 f p lim with
          | some a =>
            have h1 := amA_2 ea
            refine ⟨_, _, _, _, rfl, by omega, by omega, by simp only [List.length_cons, List.length_nil]; omega, Nat.le_refl _, hn, ?_, fun _ => ⟨rfl, fun _ => ⟨by omega, fun d => dp_n (by omega) d⟩, fun h => by omega⟩⟩
            intro t ht
            rw [List.mem_singleton.mp ht]; exact Or.inl (by omega)
          | none =>
            dsimp only
            by_cases h4 : n = 4 ∨ ¬ (p < lim ∧ f p = 40)
            · rw [if_pos h4]
              exact ⟨_, _, _, _, rfl, Nat.le_refl _, hp, Nat.zero_le _, Nat.le_refl _, hn, fun t ht => (by cases ht), fun h => by cases h⟩
            · rw [if_neg h4]
              obtain ⟨b, q, n2, o, e, g1, g2, g3, g4, g5, g6, g7⟩ := ih 0 (n + 1) (p + 1) (by decide) (by omega) (by omega) (by omega)
              rw [e]
              dsimp only
              by_cases h41 : b = true ∧ q < lim ∧ f q = 41
              · rw [if_pos h41]
                have g8 := g7 h41.1
                exact ⟨_, _, _, _, rfl, by omega, by omega, by omega, by omega, by omega, g6, fun _ => ⟨by omega, fun _ => ⟨by omega, (g8.2.1 (by decide)).2⟩, fun h => by omega⟩⟩
              · rw [if_neg h41]
                exact ⟨_, _, _, _, rfl, by omega, g2, by omega, by omega, g5, g6, fun h => by cases h⟩
    · rw [if_neg h3]
      by_cases hm3 : m < 3
      · rw [if_pos hm3]
        obtain ⟨b, q, n2, o, e, g1, g2, g3, g4, g5, g6, g7⟩ := ih (m + 1) n p (by omega) hn hp (by omega)
        rw [e]
        dsimp only
        by_cases hb : b = true
        · rw [if_pos hb]
          have g8 := g7 hb
          have g9 := g8.2.1 (by omega)
          obtain ⟨b2, q2, n3, o2, e2, k1, k2, k3, k4, k5, k6, k7⟩ := ih (m + 4) n2 q (by omega) g5 g2 (by omega)
          rw [e2]
          refine ⟨b2, q2, n3, _, rfl, by omega, k2, by rw [List.length_append]; omega, by omega, k5, ?_, fun hb2 => ⟨by have := (k7 hb2).1; omega, fun _ => ⟨by omega, fun d => ?_⟩, fun h => by omega⟩⟩
          · intro t ht
            rcases List.mem_append.mp ht with h | h
            · exact g6 t h
            · exact k6 t h
          · rw [dpL_app _ _ _ _ (g9.2 d)]
            exact (k7 hb2).2.2 (by omega) d
        · rw [if_neg hb]
          exact ⟨_, _, _, _, rfl, g1, g2, g3, g4, g5, g6, fun h => by cases h⟩
      · rw [if_neg hm3]
        cases ea : amA (m - 1) f p lim with
        | none =>
          exact ⟨_, _, _, _, rfl, Nat.le_refl _, hp, Nat.zero_le _, Nat.le_refl _, hn, fun t ht => (by cases ht), fun _ => ⟨rfl, fun h => by omega, fun _ d => rfl⟩⟩
        | some a =>
          dsimp only
          have h1 : p < lim ∧ a < 7 - m + (if m = 4 then 0 else if m = 5 then 0 else 1) := by
            unfold amA at ea
            split at ea
            · rename_i hl
              refine ⟨hl, ?_⟩
              have h2 : a < zlen (m - 1) := amF_lt ea
              have h3 : m = 4 ∨ m = 5 ∨ m = 6 := by omega
              rcases h3 with h | h | h
              · subst h; exact h2
              · subst h; exact h2
              · subst h; exact h2
            · cases ea
          obtain ⟨b, q, n2, o, e, g1, g2, g3, g4, g5, g6, g7⟩ := ih (m - 3) n (p + 1) (by omega) hn (by omega) (by omega)
          rw [e]
          dsimp only
          by_cases hb : b = true
          · rw [if_pos hb]
            have g8 := g7 hb
            have g9 := g8.2.1 (by omega)
            by_cases h4 : m = 4
            · rw [if_pos h4]
              subst h4
              rw [if_pos rfl] at h1
              refine ⟨_, _, _, _, rfl, by omega, g2, by rw [List.length_append]; simp only [List.length_cons, List.length_nil]; omega, g4, g5, ?_, fun _ => ⟨g8.1, fun h => by omega, fun _ d => ?_⟩⟩
              · intro t ht
                rcases List.mem_append.mp ht with h | h
                · exact g6 t h
                · rw [List.mem_singleton.mp h]; exact Or.inr (Or.inl (by omega))
              · rw [dpL_app _ _ _ _ (g9.2 (d + 1))]
                exact dp_a (by omega) d
            · rw [if_neg h4]
              rw [if_neg h4] at h1
              obtain ⟨b2, q2, n3, o2, e2, k1, k2, k3, k4, k5, k6, k7⟩ := ih m n2 q hm g5 g2 (by omega)
              rw [e2]
              have ht2 : 2000 ≤ 2000 + a + (if m = 5 then 3 else 5) ∧ 2000 + a + (if m = 5 then 3 else 5) < 2007 := by
                by_cases h5 : m = 5
                · rw [if_pos h5]; rw [if_pos h5] at h1; omega
                · rw [if_neg h5]; rw [if_neg h5] at h1; omega
              refine ⟨b2, q2, n3, _, rfl, by omega, k2, by rw [List.length_append, List.length_append]; simp only [List.length_cons, List.length_nil]; omega, by omega, k5, ?_, fun hb2 => ⟨by have := (k7 hb2).1; omega, fun h => by omega, fun _ d => ?_⟩⟩
              · intro t ht
                rcases List.mem_append.mp ht with h | h
                · rcases List.mem_append.mp h with h | h
                  · exact g6 t h
                  · rw [List.mem_singleton.mp h]; exact Or.inr (Or.inl ht2)
                · exact k6 t h
              · rw [List.append_assoc, dpL_app _ _ _ _ (g9.2 (d + 1)), dpL_app _ _ _ _ (dp_a ht2 d)]
                exact (k7 hb2).2.2 (by omega) d
          · rw [if_neg hb]
            exact ⟨_, _, _, _, rfl, by omega, g2, by omega, g4, g5, g6, fun h => by cases h⟩
/-- what the class does where the reference reads mode m: from here it goes on as from there -/
def rS (f : Nat → Nat) (lim m n p : Nat) (W S : List Nat) (c : Nat → Bool) (b : Bool) (q : Nat) (o : List Nat) : Prop :=
  (b = true → ∃ c', mQq f lim (p, decide (m ≤ 3), W, S, n, c) = mQq f lim (q, false, W, S ++ o, n, c') ∧ (∀ j, j < n → c' j = c j) ∧ (m ≠ 0 ∧ m ≠ 4 → c' n = c n) ∧
      (m = 0 ∨ m = 4 → NA f lim 1 q ∧ (c' n = true ∨ NA f lim 0 q)) ∧ (m = 1 ∨ m = 5 → NA f lim 1 q) ∧ (m = 2 ∨ m = 6 → NA f lim 2 q)) ∧
  (b = false → mQq f lim (p, decide (m ≤ 3), W, S, n, c) = (0, q, []))
theorem NA_3 {f : Nat → Nat} {lim k q : Nat} (h : 3 ≤ k) : NA f lim k q := fun _ t e => Nat.le_trans (acT_rk e).2 h
theorem am_ac {m v a : Nat} (hm : m = 4 ∨ m = 5 ∨ m = 6) (h : am (m - 1) v = some a) : v ≠ 41 ∧ acT v = some (2000 + a + (if m = 4 then 0 else if m = 5 then 3 else 5)) ∧ rkT (2000 + a + (if m = 4 then 0 else if m = 5 then 3 else 5)) = m - 3 := by
  rcases hm with hm | hm | hm
  · subst hm
    rw [show 4 - 1 = 3 from rfl, am3] at h
    repeat' split at h
    all_goals (cases h; try (subst v; decide))
  · subst hm
    rw [show 5 - 1 = 4 from rfl, am4] at h
    repeat' split at h
    all_goals (cases h; try (subst v; decide))
  · subst hm
    rw [show 6 - 1 = 5 from rfl, am5] at h
    repeat' split at h
    all_goals (cases h; try (subst v; decide))
theorem NA_of {f : Nat → Nat} {lim m p : Nat} (hm : m = 4 ∨ m = 5 ∨ m = 6) (h : amA (m - 1) f p lim = none) (hN : NA f lim (m - 3) p) : NA f lim (m - 4) p := by
  intro hp t e
  have h1 := hN hp t e
  have h2 := acT_rk e
  unfold amA at h
  rw [if_pos hp] at h
  generalize f p = v at h e
  rcases hm with hm | hm | hm
  · subst hm
    rw [show 4 - 1 = 3 from rfl, am3] at h
    unfold acT at e
    repeat' split at e
    all_goals (cases e; try (first | (subst v; exact absurd h (by decide)) | exact absurd h1 (by decide)))
  · subst hm
    rw [show 5 - 1 = 4 from rfl, am4] at h
    unfold acT at e
    repeat' split at e
    all_goals (cases e; try (first | (subst v; exact absurd h (by decide)) | exact absurd h1 (by decide) | decide))
  · subst hm
    rw [show 6 - 1 = 5 from rfl, am5] at h
    unfold acT at e
    repeat' split at e
    all_goals (cases e; try (first | (subst v; exact absurd h (by decide)) | exact absurd h1 (by decide) | decide))
/-- no act can follow here, and no closing sign -/
theorem mQq_stop {f : Nat → Nat} {lim q d : Nat} {W S : List Nat} {c : Nat → Bool} (hq : q < lim) (h1 : NA f lim 1 q) (h2 : c d = true ∨ NA f lim 0 q) (h3 : ¬ (f q = 41 ∧ 0 < d)) : mQq f lim (q, false, W, S, d, c) = (0, q, []) := by
  refine mQq_n hq ?_
  rw [mS_a]
  unfold mA
  rw [if_neg h3]
  cases e : acT (f q) with
  | none => rfl
  | some t =>
    have k1 := h1 hq t e
    have k2 := acT_rk e
    dsimp only
    rw [if_pos (by omega)]
    rcases h2 with h2 | h2
    · rw [if_pos h2]
    · have := h2 hq t e; omega
theorem mQq_due {f : Nat → Nat} {lim q d : Nat} {W S : List Nat} {c : Nat → Bool} (hq : q ≤ lim) (h : q < lim → mT f lim q W S d c = none) : mQq f lim (q, true, W, S, d, c) = (0, q, []) := by
  by_cases hl : q < lim
  · exact mQq_n hl (by rw [mS_t]; exact h hl)
  · have e : q = lim := by omega
    rw [mQq_e (by dsimp only; omega), e]
    rfl
def rQ (f : Nat → Nat) (lim m n p : Nat) (W : List Nat) (c : Nat → Bool) : Prop :=
  (m ≤ 2 → TopLe m W) ∧ (4 ≤ m → TopLe (m - 4) W ∧ NA f lim (m - 3) p) ∧ (m = 0 ∨ m = 4 → c n = false)
theorem sim {f : Nat → Nat} {lim : Nat} : ∀ F m n p b q n2 o, m ≤ 6 → n ≤ 4 → p ≤ lim → 4 * (lim - p) + (3 - m) + 1 ≤ F → rP f lim F m n p = some (b, q, n2, o) → ∀ W S c, rQ f lim m n p W c → rS f lim m n p W S c b q o := by
  intro F
  induction F with
  | zero => intro m n p b q n2 o _ _ _ h; omega
  | succ F ih =>
    intro m n p b q n2 o hm hn hp hF e W S c hQ
    rw [rP] at e
    by_cases h3 : m = 3
    · subst h3
      rw [if_pos rfl] at e
      unfold rS
      rw [show decide (3 ≤ 3) = true from rfl]
      by_cases h45 : p < lim ∧ f p = 45
      · rw [if_pos h45] at e
        obtain ⟨b1, q1, n1, o1, e1, g⟩ := rP_tot (f := f) (lim := lim) F 3 n (p + 1) (by decide) hn (by omega) (by omega)
        have i := ih 3 n (p + 1) b1 q1 n1 o1 (by decide) hn (by omega) (by omega) e1 (3000 :: W) S c ⟨fun h => by omega, fun h => by omega, fun h => by omega⟩
        rw [e1] at e
        cases e
        unfold rS at i
        rw [show decide (3 ≤ 3) = true from rfl] at i
        have hst : mQq f lim (p, true, W, S, n, c) = mQq f lim (p + 1, true, 3000 :: W, S, n, c) := by
          refine mQq_s h45.1 ?_
          rw [mS_t]
          unfold mT
          rw [isD_0 (by omega), if_neg (by omega), if_pos h45.2]
        refine ⟨fun hb => ?_, fun hb => hst.trans (i.2 hb)⟩
        obtain ⟨c', i1, i2, i3, i4, i5, i6⟩ := i.1 hb
        refine ⟨c', ?_, i2, i3, i4, i5, i6⟩
        rw [hst, i1, mQq_pop (by decide) (NA_3 (by decide)), List.append_assoc]
      · rw [if_neg h45] at e
        by_cases hd : p < lim ∧ 48 ≤ f p ∧ f p ≤ 57
        · rw [if_pos hd] at e
          cases e
          have h1 := tDig_p hd
          refine ⟨fun _ => ⟨c, ?_, fun _ _ => rfl, fun _ => rfl, fun h => by omega, fun h => by omega, fun h => by omega⟩, fun h => by cases h⟩
          refine mQq_s hd.1 ?_
          rw [mS_t]
          unfold mT
          rw [if_pos h1.1]
        · rw [if_neg hd] at e
          cases ea : amA 2 f p lim with
          | some a =>
            rw [ea] at e
            cases e
            have h1 := amA_2 ea
            refine ⟨fun _ => ⟨c, ?_, fun _ _ => rfl, fun _ => rfl, fun h => by omega, fun h => by omega, fun h => by omega⟩, fun h => by cases h⟩
            refine mQq_s h1.1 ?_
            rw [mS_t]
            unfold mT
            have h40 : f p ≠ 40 := fun h => by rw [h, show am 2 40 = none from rfl] at h1; exact absurd h1.2.2 (fun q => by cases q)
            rw [isD_0 hd, if_neg (by omega), if_neg (by omega), if_neg (by omega), h1.2.2]
          | none =>
            rw [ea] at e
            dsimp only at e
            by_cases h4 : n = 4 ∨ ¬ (p < lim ∧ f p = 40)
            · rw [if_pos h4] at e
              cases e
              refine ⟨fun h => (by cases h), fun _ => mQq_due hp (fun hl => ?_)⟩
              unfold mT
              unfold amA at ea
              rw [if_pos hl] at ea
              rw [isD_0 hd, if_neg (by omega), if_neg (by omega), if_neg (by omega), ea]
            · rw [if_neg h4] at e
              have h40 : p < lim ∧ f p = 40 ∧ n < 4 := by omega
              obtain ⟨b1, q1, n1, o1, e1, g⟩ := rP_tot (f := f) (lim := lim) F 0 (n + 1) (p + 1) (by decide) (by omega) (by omega) (by omega)
              have i := ih 0 (n + 1) (p + 1) b1 q1 n1 o1 (by decide) (by omega) (by omega) (by omega) e1 (4000 :: W) S (upc c (n + 1) false) ⟨fun _ => Nat.le_refl 0, fun h => by omega, fun _ => if_pos rfl⟩
              rw [e1] at e
              dsimp only at e
              unfold rS at i
              rw [show decide (0 ≤ 3) = true from rfl] at i
              have hst : mQq f lim (p, true, W, S, n, c) = mQq f lim (p + 1, true, 4000 :: W, S, n + 1, upc c (n + 1) false) := by
                refine mQq_s h40.1 ?_
                rw [mS_t]
                unfold mT
                rw [isD_0 hd, if_neg (by omega), if_neg (by omega), if_pos h40.2]
              have hup : ∀ j, j ≤ n → upc c (n + 1) false j = c j := fun j hj => if_neg (by omega)
              by_cases hb : b1 = true
              · obtain ⟨c', i1, i2, i3, i4, i5, i6⟩ := i.1 hb
                have i4 := i4 (Or.inl rfl)
                have g2 := g.2.1
                by_cases h41 : q1 < lim ∧ f q1 = 41
                · rw [if_pos ⟨hb, h41⟩] at e
                  cases e
                  refine ⟨fun _ => ⟨c', ?_, fun j hj => (i2 j (by omega)).trans (hup j (by omega)), fun _ => (i2 n (by omega)).trans (hup n (by omega)), fun h => by omega, fun h => by omega, fun h => by omega⟩, fun h => by cases h⟩
                  rw [hst, i1]
                  refine mQq_s h41.1 ?_
                  rw [mS_a]
                  unfold mA
                  rw [if_pos ⟨h41.2, by omega⟩, show popS 1 (4000 :: W) (S ++ o) = (4000 :: W, S ++ o) from pop_top (r := 0) (W := 4000 :: W) (show rkT 4000 ≤ 0 from Nat.le_refl 0)]
                  rfl
                · rw [if_neg (fun h => h41 h.2)] at e
                  cases e
                  refine ⟨fun h => (by cases h), fun _ => ?_⟩
                  rw [hst, i1]
                  by_cases hl : q < lim
                  · exact mQq_stop hl i4.1 i4.2 (fun h => h41 ⟨hl, h.1⟩)
                  · have el : q = lim := by omega
                    rw [mQq_e (by dsimp only; omega), el]
                    unfold mE
                    rw [if_pos (Or.inr (by dsimp only; omega))]
              · rw [if_neg (fun h => hb h.1)] at e
                cases e
                exact ⟨fun h => (by cases h), fun _ => hst.trans (i.2 (Bool.eq_false_iff.mpr hb))⟩
    · rw [if_neg h3] at e
      by_cases hm3 : m < 3
      · rw [if_pos hm3] at e
        obtain ⟨b1, q1, n1, o1, e1, g⟩ := rP_tot (f := f) (lim := lim) F (m + 1) n p (by omega) hn hp (by omega)
        have i := ih (m + 1) n p b1 q1 n1 o1 (by omega) hn hp (by omega) e1 W S c ⟨fun h => (hQ.1 (by omega)).up (by omega), fun h => by omega, fun h => by omega⟩
        rw [e1] at e
        dsimp only at e
        unfold rS at i ⊢
        rw [show decide (m + 1 ≤ 3) = true from decide_eq_true (by omega)] at i
        rw [show decide (m ≤ 3) = true from decide_eq_true (by omega)]
        by_cases hb : b1 = true
        · rw [if_pos hb] at e
          obtain ⟨c', i1, i2, i3, i4, i5, i6⟩ := i.1 hb
          have g8 := g.2.2.2.2.2.2 hb
          have g9 := g8.2.1 (by omega)
          have en : n1 = n := g8.1
          subst en
          obtain ⟨b2, q2, n3, o2, e2, k⟩ := rP_tot (f := f) (lim := lim) F (m + 4) n1 q1 (by omega) hn g.2.1 (by have := g.2.1; omega)
          have i3 := i3 (by omega)
          have hNq : NA f lim (m + 1) q1 := by
            by_cases h0 : m = 0
            · subst h0; exact i5 (Or.inl rfl)
            · by_cases h1 : m = 1
              · subst h1; exact i6 (Or.inl rfl)
              · exact NA_3 (by omega)
          have k2 := ih (m + 4) n1 q1 b2 q2 n3 o2 (by omega) hn g.2.1 (by have := g.2.1; omega) e2 W (S ++ o1) c' ⟨fun h => by omega, fun _ => ⟨hQ.1 (by omega), hNq⟩, fun h => by rw [i3]; exact hQ.2.2 (by omega)⟩
          rw [e2] at e
          cases e
          unfold rS at k2
          rw [show decide (m + 4 ≤ 3) = false from decide_eq_false (by omega)] at k2
          refine ⟨fun h => ?_, fun h => i1.trans (k2.2 h)⟩
          obtain ⟨c2, l1, l2, l3, l4, l5, l6⟩ := k2.1 h
          exact ⟨c2, by rw [i1, l1, List.append_assoc], fun j hj => (l2 j hj).trans (i2 j hj), fun hh => (l3 (by omega)).trans i3, fun hh => l4 (by omega), fun hh => l5 (by omega), fun hh => l6 (by omega)⟩
        · rw [if_neg hb] at e
          cases e
          exact ⟨fun h => (by cases h), fun _ => i.2 (Bool.eq_false_iff.mpr hb)⟩
      · rw [if_neg hm3] at e
        have hm4 : m = 4 ∨ m = 5 ∨ m = 6 := by omega
        have hQ4 := hQ.2.1 (by omega)
        unfold rS
        rw [show decide (m ≤ 3) = false from decide_eq_false (by omega)]
        cases ea : amA (m - 1) f p lim with
        | none =>
          rw [ea] at e
          cases e
          have hN := NA_of hm4 ea hQ4.2
          refine ⟨fun _ => ⟨c, by rw [List.append_nil], fun _ _ => rfl, fun _ => rfl, fun h => ?_, fun h => ?_, fun h => ?_⟩, fun h => by cases h⟩
          · have em : m = 4 := by omega
            subst em
            exact ⟨hQ4.2, Or.inr hN⟩
          · have em : m = 5 := by omega
            subst em
            exact hN
          · have em : m = 6 := by omega
            subst em
            exact hN
        | some a =>
          rw [ea] at e
          dsimp only at e
          have hpa : p < lim ∧ am (m - 1) (f p) = some a := by
            unfold amA at ea
            split at ea
            · rename_i hl; exact ⟨hl, ea⟩
            · cases ea
          have hac := am_ac hm4 hpa.2
          generalize ht : 2000 + a + (if m = 4 then 0 else if m = 5 then 3 else 5) = t at hac
          have hpp : popS (m - 3) W S = (W, S) := by
            rw [show m - 3 = (m - 4) + 1 by omega]
            exact pop_top hQ4.1
          have hst : mQq f lim (p, false, W, S, n, c) = mQq f lim (p + 1, true, t :: W, S, n, if m = 4 then upc c n true else c) := by
            refine mQq_s hpa.1 ?_
            rw [mS_a]
            unfold mA
            rw [if_neg (fun h => hac.1 h.1), hac.2.1]
            dsimp only
            by_cases h4 : m = 4
            · subst h4
              have hcn : c n = false := hQ.2.2 (Or.inr rfl)
              rw [if_pos (by omega), if_neg (by rw [hcn]; decide), show popS 1 W S = (W, S) from hpp, if_pos rfl]
            · rw [if_neg (by omega), if_neg h4, hac.2.2, hpp]
          generalize hc1 : (if m = 4 then upc c n true else c) = c1 at hst
          have hc1j : ∀ j, j < n → c1 j = c j := fun j hj => by
            rw [← hc1]
            split
            · exact if_neg (by omega)
            · rfl
          obtain ⟨b1, q1, n1, o1, e1, g⟩ := rP_tot (f := f) (lim := lim) F (m - 3) n (p + 1) (by omega) hn (by omega) (by omega)
          have i := ih (m - 3) n (p + 1) b1 q1 n1 o1 (by omega) hn (by omega) (by omega) e1 (t :: W) S c1 ⟨fun h => by show rkT t ≤ m - 3; omega, fun h => by omega, fun h => by omega⟩
          rw [e1] at e
          dsimp only at e
          unfold rS at i
          rw [show decide (m - 3 ≤ 3) = true from decide_eq_true (by omega)] at i
          by_cases hb : b1 = true
          · rw [if_pos hb] at e
            obtain ⟨c', i1, i2, i3, i4, i5, i6⟩ := i.1 hb
            have i3 := i3 (by omega)
            have g8 := g.2.2.2.2.2.2 hb
            have en : n1 = n := g8.1
            subst en
            have hNq : NA f lim (m - 3) q1 := by
              by_cases h4 : m = 4
              · subst h4; exact i5 (Or.inl rfl)
              · by_cases h5 : m = 5
                · subst h5; exact i6 (Or.inl rfl)
                · exact NA_3 (by omega)
            have hpop : mQq f lim (p, false, W, S, n1, c) = mQq f lim (q1, false, W, S ++ o1 ++ [t], n1, c') := by
              rw [hst, i1, mQq_pop (by omega) (by rw [hac.2.2]; exact hNq)]
            by_cases h4 : m = 4
            · rw [if_pos h4] at e
              subst h4
              rw [if_pos rfl] at ht hc1
              cases e
              refine ⟨fun _ => ⟨c', ?_, fun j hj => (i2 j hj).trans (hc1j j hj), fun h => by omega, fun _ => ⟨hNq, Or.inl ?_⟩, fun h => by omega, fun h => by omega⟩, fun h => by cases h⟩
              · rw [hpop, ← ht, List.append_assoc]; rfl
              · rw [i3 (by decide), ← hc1]; exact if_pos rfl
            · rw [if_neg h4] at e
              rw [if_neg h4] at ht hc1
              subst hc1
              obtain ⟨b2, q2, n3, o2, e2, k⟩ := rP_tot (f := f) (lim := lim) F m n1 q1 hm hn g.2.1 (by have := g.1; have := g.2.1; omega)
              have k2 := ih m n1 q1 b2 q2 n3 o2 hm hn g.2.1 (by have := g.1; have := g.2.1; omega) e2 W (S ++ o1 ++ [t]) c' ⟨fun h => by omega, fun _ => ⟨hQ4.1, hNq⟩, fun h => by omega⟩
              rw [e2] at e
              cases e
              unfold rS at k2
              rw [show decide (m ≤ 3) = false from decide_eq_false (by omega)] at k2
              refine ⟨fun h => ?_, fun h => hpop.trans (k2.2 h)⟩
              obtain ⟨c2, l1, l2, l3, l4, l5, l6⟩ := k2.1 h
              exact ⟨c2, by rw [hpop, l1, ← ht]; simp only [List.append_assoc], fun j hj => (l2 j hj).trans (i2 j hj), fun hh => (l3 hh).trans i3, l4, l5, l6⟩
          · rw [if_neg hb] at e
            cases e
            exact ⟨fun h => (by cases h), fun _ => hst.trans (i.2 (Bool.eq_false_iff.mpr hb))⟩
/-- both readers agree upon a whole text -/
theorem rP_mQ {f : Nat → Nat} {lim F q n2 : Nat} {b : Bool} {o : List Nat} (hF : 4 * lim + 4 ≤ F) (e : rP f lim F 0 0 0 = some (b, q, n2, o)) : mQq f lim (0, true, [], [], 0, fun _ => false) = if b = true ∧ q = lim then (1, 0, o) else (0, q, []) := by
  have h := sim (f := f) (lim := lim) F 0 0 0 b q n2 o (by decide) (by decide) (Nat.zero_le _) (by omega) e [] [] (fun _ => false) ⟨fun _ => trivial, fun h => by omega, fun _ => rfl⟩
  unfold rS at h
  obtain ⟨b1, q1, n1, o1, e1, g⟩ := rP_tot (f := f) (lim := lim) F 0 0 0 (by decide) (by decide) (Nat.zero_le lim) (by omega)
  rw [e] at e1
  cases e1
  have g2 := g.2.1
  by_cases hb : b = true
  · obtain ⟨c', i1, i2, i3, i4, i5, i6⟩ := h.1 hb
    have i4 := i4 (Or.inl rfl)
    refine Eq.trans i1 ?_
    by_cases hl : q = lim
    · rw [if_pos ⟨hb, hl⟩, mQq_e (by dsimp only; omega)]
      unfold mE
      rw [if_neg (by dsimp only; simp)]
      rfl
    · rw [if_neg (fun h => hl h.2)]
      exact mQq_stop (by omega) i4.1 i4.2 (fun h => by omega)
  · rw [if_neg (fun h => hb h.1)]
    exact h.2 (Bool.eq_false_iff.mpr hb)
