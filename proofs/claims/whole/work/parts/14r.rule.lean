/-! rules of danger: a list of signs in the reference's numbers: 0 .. 999 numbers, 1000 .. 1004 things, 2000 .. 2006 acts (< > = + - * /), 3000 the minus ahead of a thing; each act behind what it acts upon -/
def tokOK (t : Nat) : Prop := t < 1005 ∨ (2000 ≤ t ∧ t < 2007) ∨ t = 3000
def wkd (a : Nat) (x y : Int32) : Int32 := if a = 0 then (if x < y then nI 1 else nI 0) else if a = 1 then (if y < x then nI 1 else nI 0) else if a = 2 then (if x = y then nI 1 else nI 0) else if a = 3 then x + y else if a = 4 then x - y else if a = 5 then x * y else if y = 0 then nI 0 else x / y
def evT (th : Nat → Int32) (t : Nat) (s : List Int32) : Option (List Int32) :=
  if t < 1000 then some (nI t :: s) else if t < 2000 then some (th (t - 1000) :: s) else if t = 3000 then (match s with | x :: s => some (-x :: s) | [] => none)
  else match s with | y :: x :: s => some (wkd (t - 2000) x y :: s) | _ => none
def evL (th : Nat → Int32) : List Nat → List Int32 → Option (List Int32)
  | [], s => some s
  | t :: ts, s => match evT th t s with | none => none | some s2 => evL th ts s2
/-- the heights of the pile -/
def dpT (t d : Nat) : Option Nat := if t < 2000 then some (d + 1) else if t = 3000 then (if 1 ≤ d then some d else none) else if 2 ≤ d then some (d - 1) else none
def dpL : List Nat → Nat → Option Nat
  | [], d => some d
  | t :: ts, d => match dpT t d with | none => none | some d2 => dpL ts d2
theorem evT_dp {th : Nat → Int32} {t d d2 : Nat} {s : List Int32} (hs : s.length = d) (h : dpT t d = some d2) : ∃ s2, evT th t s = some s2 ∧ s2.length = d2 := by
  unfold dpT at h
  unfold evT
  by_cases h1 : t < 1000
  · rw [if_pos (by omega)] at h
    rw [if_pos h1]
    cases h
    exact ⟨_, rfl, by simp [hs]⟩
  · rw [if_neg h1]
    by_cases h2 : t < 2000
    · rw [if_pos h2] at h
      rw [if_pos h2]
      cases h
      exact ⟨_, rfl, by simp [hs]⟩
    · rw [if_neg h2] at h
      rw [if_neg h2]
      by_cases h3 : t = 3000
      · rw [if_pos h3] at h
        rw [if_pos h3]
        cases s with
        | nil => subst hs; simp at h
        | cons x s =>
          subst hs
          simp at h
          exact ⟨_, rfl, by simp [h]⟩
      · rw [if_neg h3] at h
        rw [if_neg h3]
        match s, hs with
        | [], hs => subst hs; simp at h
        | [x], hs => subst hs; simp at h
        | y :: x :: s, hs =>
          subst hs
          simp at h
          exact ⟨_, rfl, by simp [← h]⟩
theorem evL_dp {th : Nat → Int32} {ts : List Nat} : ∀ {d d2 : Nat} {s : List Int32}, s.length = d → dpL ts d = some d2 → ∃ s2, evL th ts s = some s2 ∧ s2.length = d2 := by
  induction ts with
  | nil => intro d d2 s hs h; cases h; exact ⟨s, rfl, hs⟩
  | cons t ts ih =>
    intro d d2 s hs h
    unfold dpL at h
    cases hd : dpT t d with
    | none => rw [hd] at h; cases h
    | some d3 =>
      rw [hd] at h
      obtain ⟨s2, e1, e2⟩ := evT_dp (th := th) hs hd
      obtain ⟨s3, e3, e4⟩ := ih e2 h
      exact ⟨s3, by unfold evL; rw [e1]; exact e3, e4⟩
def thg (h g l w o : Nat) (j : Nat) : Int32 := nI (([h, g, l, w, o] : List Nat).getD j 0)
/-- RISK -/
def rsk (xs : List Nat) (h g l w o : Nat) : Nat := match evL (thg h g l w o) xs [] with
  | some (v :: _) => clp v 999
  | _ => 0
theorem rsk_le (xs : List Nat) (h g l w o : Nat) : rsk xs h g l w o ≤ 999 := by
  unfold rsk
  split
  · exact clp_le _ _
  · omega
/-- the class's numbers -/
def ctok (t : Nat) : Int32 := if t < 1000 then nI t else if t = 1000 then -1 else if t = 1001 then -2 else if t = 1002 then -3 else if t = 1003 then -4 else if t = 1004 then -5 else if t = 2000 then -11 else if t = 2001 then -12 else if t = 2002 then -13 else if t = 2003 then -9 else if t = 2004 then -10 else if t = 2005 then -7 else if t = 2006 then -8 else -6
/-- a pile in a row of numbers, the lowest at place 0 -/
def stk (A : Nat → Int32) : List Int32 → Prop
  | [] => True
  | x :: s => A s.length = x ∧ stk A s
theorem stk_up {A : Nat → Int32} {s : List Int32} {k : Nat} {v : Int32} (h : stk A s) (hk : s.length ≤ k) : stk (upd A k v) s := by
  induction s with
  | nil => trivial
  | cons x s ih =>
    have h3 : s.length + 1 ≤ k := hk
    refine ⟨?_, ih h.2 (by omega)⟩
    rw [upd_at, if_neg (by omega)]
    exact h.1
theorem stk_push {A : Nat → Int32} {s : List Int32} {v : Int32} (h : stk A s) : stk (upd A s.length v) (v :: s) := ⟨by rw [upd_at, if_pos rfl], stk_up h (Nat.le_refl _)⟩
def RuleIs (σ : zT) (k : Nat) (xs : List Nat) : Prop := dpL xs 0 = some 1 ∧ xs.length ≤ 40 ∧ σ.1 k 4 = nI xs.length ∧ ∀ j t, xs[j]? = some t → σ.2.1 k 1 j = ctok t ∧ tokOK t
theorem RuleIs.fr {σ σ' : zT} {k : Nat} {xs : List Nat} {S : List Nat} (h : RuleIs σ k xs) (hf : FrG S σ σ') (hk : k ∉ S) : RuleIs σ' k xs := by
  obtain ⟨e1, e2, -⟩ := hf.1 k hk
  exact ⟨h.1, h.2.1, by rw [e1]; exact h.2.2.1, fun j t hj => by rw [e2]; exact h.2.2.2 j t hj⟩
