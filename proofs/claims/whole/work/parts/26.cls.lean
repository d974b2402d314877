/-! the class's state in whole: text, carriers, weather, mouths, rule, land, past, shelf, rumours, told -/
def ClsIs (σ : zT) (tx : Nat × (Nat → Nat)) (bd : Nat × (Nat → Nat) × (Nat → Nat)) (sk : Nat × (Nat → Nat)) (tw : Nat × (Nat → Nat) × (Nat → Nat)) (xs : List Nat) (ld : Nat × (Nat → Nat)) (pa sh : Nat × (Nat → Nat → Nat)) (ru : Nat × (Nat → Nat) × (Nat → Nat)) (to : Nat × (Nat → Int64)) : Prop :=
  (∃ kr, zRl kr = true ∧ σ.2.2.2 14 = kr ∧ σ.2.2.2 15 = 63 - kr ∧ RuleIs σ kr xs) ∧ TextIs σ tx.1 tx.2 ∧ BandIs σ bd.1 bd.2.1 bd.2.2 ∧ SkyIs σ sk.1 sk.2 ∧ TownIs σ tw.1 tw.2.1 tw.2.2 ∧ LandIs σ 6 ld.1 ld.2 ∧ (∃ nx, PastIs σ nx pa.1 ld.1 pa.2) ∧ ShelfIs σ sh.1 ld.1 sh.2 ∧ RumIs σ ru.1 ru.2.1 ru.2.2 ∧ ToldIs σ to.1 to.2
/-- reference and law's row stay -/
def Fr33 (σ σ' : zT) : Prop := ∀ a, 33 ≤ a → σ'.1 a = σ.1 a ∧ σ'.2.1 a = σ.2.1 a ∧ σ'.2.2.1 a = σ.2.2.1 a
theorem Fr33.of {S : List Nat} {σ σ' : zT} (h : FrG S σ σ') (hS : ∀ a ∈ S, a < 33) : Fr33 σ σ' := fun a ha => h.1 a (fun q => absurd (hS a q) (by omega))
theorem Fr33.rf {σ : zT} : Fr33 σ σ := fun _ _ => ⟨rfl, rfl, rfl⟩
theorem Fr33.tr {a b c : zT} (h : Fr33 a b) (h2 : Fr33 b c) : Fr33 a c := fun q hq => ⟨(h2 q hq).1.trans (h q hq).1, (h2 q hq).2.1.trans (h q hq).2.1, (h2 q hq).2.2.trans (h q hq).2.2⟩
/-- the environment of a crossing -/
def vOf (bd : Nat × (Nat → Nat) × (Nat → Nat)) (sk : Nat × (Nat → Nat)) (xs : List Nat) (n : Nat) : zV := (n, bd.1, bd.2.1, bd.2.2, sk.1, sk.2, xs)
theorem zR_cases {kr : Nat} (h : zRl kr = true) : kr = 31 ∨ kr = 32 := zR_or h
section CF
variable {σ σ' : zT} {tx : Nat × (Nat → Nat)} {bd : Nat × (Nat → Nat) × (Nat → Nat)} {sk : Nat × (Nat → Nat)} {tw : Nat × (Nat → Nat) × (Nat → Nat)} {xs : List Nat} {ld : Nat × (Nat → Nat)} {pa sh : Nat × (Nat → Nat → Nat)} {ru : Nat × (Nat → Nat) × (Nat → Nat)} {to : Nat × (Nat → Int64)}
/-- what the class's scratch (its own rows, crossing, trial, before, the spare rule) doesn't touch -/
theorem ClsIs.fr {S : List Nat} (h : ClsIs σ tx bd sk tw xs ld pa sh ru to) (hf : FrG S σ σ') (hS : ∀ a ∈ S, a = 0 ∨ a = 5 ∨ a = 7 ∨ a = 8) : ClsIs σ' tx bd sk tw xs ld pa sh ru to := by
  obtain ⟨⟨kr, k1, k2, k3, k4⟩, h2, h3, h4, h5, h6, ⟨nx, h7⟩, h8, h9, h10⟩ := h
  have no : ∀ a, a ≠ 0 → a ≠ 5 → a ≠ 7 → a ≠ 8 → a ∉ S := fun a q1 q2 q3 q4 q5 => by have := hS a q5; omega
  have hk := zR_cases k1
  refine ⟨⟨kr, k1, by rw [hf.2]; exact k2, by rw [hf.2]; exact k3, k4.fr hf (no _ (by omega) (by omega) (by omega) (by omega))⟩, h2.fr hf (no _ (by decide) (by decide) (by decide) (by decide)), h3.fr hf (no _ (by decide) (by decide) (by decide) (by decide)), h4.fr hf (no _ (by decide) (by decide) (by decide) (by decide)), h5.fr hf (no _ (by decide) (by decide) (by decide) (by decide)), h6.fr hf (no _ (by decide) (by decide) (by decide) (by decide)), ⟨nx, h7.fr hf (fun a ha => no a ?_ ?_ ?_ ?_)⟩, h8.fr hf (fun a ha => no a ?_ ?_ ?_ ?_), h9.fr hf (no _ (by decide) (by decide) (by decide) (by decide)), h10.fr hf (no _ (by decide) (by decide) (by decide) (by decide))⟩
  all_goals (first | (simp only [pastS, List.mem_cons, List.not_mem_nil, or_false] at ha; omega) | (simp only [shelfS, List.mem_cons, List.not_mem_nil, or_false] at ha; omega))
/-- and the ruling rule's own scratch -/
theorem ClsIs.frR {S : List Nat} {kr : Nat} (h : ClsIs σ tx bd sk tw xs ld pa sh ru to) (hk1 : zRl kr = true) (hk : σ.2.2.2 14 = kr) (hR : RuleIs σ' kr xs) (hf : FrG S σ σ') (hS : ∀ a ∈ S, a = 0 ∨ a = 5 ∨ a = 7 ∨ a = 8 ∨ a = kr) : ClsIs σ' tx bd sk tw xs ld pa sh ru to := by
  obtain ⟨⟨kr2, k1, k2, k3, k4⟩, h2, h3, h4, h5, h6, ⟨nx, h7⟩, h8, h9, h10⟩ := h
  have e : kr2 = kr := k2.symm.trans hk
  subst e
  have hkk := zR_cases k1
  have no : ∀ a, a ≠ 0 → a ≠ 5 → a ≠ 7 → a ≠ 8 → a ≠ kr2 → a ∉ S := fun a q1 q2 q3 q4 q6 q5 => by have := hS a q5; omega
  refine ⟨⟨kr2, k1, by rw [hf.2]; exact k2, by rw [hf.2]; exact k3, hR⟩, h2.fr hf (no _ (by decide) (by decide) (by decide) (by decide) (by omega)), h3.fr hf (no _ (by decide) (by decide) (by decide) (by decide) (by omega)), h4.fr hf (no _ (by decide) (by decide) (by decide) (by decide) (by omega)), h5.fr hf (no _ (by decide) (by decide) (by decide) (by decide) (by omega)), h6.fr hf (no _ (by decide) (by decide) (by decide) (by decide) (by omega)), ⟨nx, h7.fr hf (fun a ha => no a ?_ ?_ ?_ ?_ ?_)⟩, h8.fr hf (fun a ha => no a ?_ ?_ ?_ ?_ ?_), h9.fr hf (no _ (by decide) (by decide) (by decide) (by decide) (by omega)), h10.fr hf (no _ (by decide) (by decide) (by decide) (by decide) (by omega))⟩
  all_goals (first | (simp only [pastS, List.mem_cons, List.not_mem_nil, or_false] at ha; omega) | (simp only [shelfS, List.mem_cons, List.not_mem_nil, or_false] at ha; omega))
theorem ClsIs.setT {tx' : Nat × (Nat → Nat)} (h : ClsIs σ tx bd sk tw xs ld pa sh ru to) (hf : FrG [1] σ σ') (hT : TextIs σ' tx'.1 tx'.2) : ClsIs σ' tx' bd sk tw xs ld pa sh ru to := by
  obtain ⟨⟨kr, k1, k2, k3, k4⟩, h2, h3, h4, h5, h6, ⟨nx, h7⟩, h8, h9, h10⟩ := h
  have hk := zR_cases k1
  exact ⟨⟨kr, k1, by rw [hf.2]; exact k2, by rw [hf.2]; exact k3, k4.fr hf (by simp; omega)⟩, hT, h3.fr hf (by decide), h4.fr hf (by decide), h5.fr hf (by decide), h6.fr hf (by decide), ⟨nx, h7.fr hf (by decide)⟩, h8.fr hf (by decide), h9.fr hf (by decide), h10.fr hf (by decide)⟩
theorem ClsIs.setL {ρ' : Nat → Nat} (h : ClsIs σ tx bd sk tw xs ld pa sh ru to) (hf : FrG [6] σ σ') (hL : LandIs σ' 6 ld.1 ρ') : ClsIs σ' tx bd sk tw xs (ld.1, ρ') pa sh ru to := by
  obtain ⟨⟨kr, k1, k2, k3, k4⟩, h2, h3, h4, h5, h6, ⟨nx, h7⟩, h8, h9, h10⟩ := h
  have hk := zR_cases k1
  exact ⟨⟨kr, k1, by rw [hf.2]; exact k2, by rw [hf.2]; exact k3, k4.fr hf (by simp; omega)⟩, h2.fr hf (by decide), h3.fr hf (by decide), h4.fr hf (by decide), h5.fr hf (by decide), hL, ⟨nx, h7.fr hf (by decide)⟩, h8.fr hf (by decide), h9.fr hf (by decide), h10.fr hf (by decide)⟩
theorem ClsIs.setP {pa' : Nat × (Nat → Nat → Nat)} {nx : Nat} (h : ClsIs σ tx bd sk tw xs ld pa sh ru to) (hf : FrG pastS σ σ') (hP : PastIs σ' nx pa'.1 ld.1 pa'.2) : ClsIs σ' tx bd sk tw xs ld pa' sh ru to := by
  obtain ⟨⟨kr, k1, k2, k3, k4⟩, h2, h3, h4, h5, h6, -, h8, h9, h10⟩ := h
  have hk := zR_cases k1
  exact ⟨⟨kr, k1, by rw [hf.2]; exact k2, by rw [hf.2]; exact k3, k4.fr hf (by simp [pastS]; omega)⟩, h2.fr hf (by decide), h3.fr hf (by decide), h4.fr hf (by decide), h5.fr hf (by decide), h6.fr hf (by decide), ⟨nx, hP⟩, h8.fr hf (by decide), h9.fr hf (by decide), h10.fr hf (by decide)⟩
theorem ClsIs.setSh {sh' : Nat × (Nat → Nat → Nat)} (h : ClsIs σ tx bd sk tw xs ld pa sh ru to) (hf : FrG shelfS σ σ') (hS : ShelfIs σ' sh'.1 ld.1 sh'.2) : ClsIs σ' tx bd sk tw xs ld pa sh' ru to := by
  obtain ⟨⟨kr, k1, k2, k3, k4⟩, h2, h3, h4, h5, h6, ⟨nx, h7⟩, -, h9, h10⟩ := h
  have hk := zR_cases k1
  exact ⟨⟨kr, k1, by rw [hf.2]; exact k2, by rw [hf.2]; exact k3, k4.fr hf (by simp [shelfS]; omega)⟩, h2.fr hf (by decide), h3.fr hf (by decide), h4.fr hf (by decide), h5.fr hf (by decide), h6.fr hf (by decide), ⟨nx, h7.fr hf (by decide)⟩, hS, h9.fr hf (by decide), h10.fr hf (by decide)⟩
theorem ClsIs.setRu {ru' : Nat × (Nat → Nat) × (Nat → Nat)} (h : ClsIs σ tx bd sk tw xs ld pa sh ru to) (hf : FrG [29] σ σ') (hR : RumIs σ' ru'.1 ru'.2.1 ru'.2.2) : ClsIs σ' tx bd sk tw xs ld pa sh ru' to := by
  obtain ⟨⟨kr, k1, k2, k3, k4⟩, h2, h3, h4, h5, h6, ⟨nx, h7⟩, h8, -, h10⟩ := h
  have hk := zR_cases k1
  exact ⟨⟨kr, k1, by rw [hf.2]; exact k2, by rw [hf.2]; exact k3, k4.fr hf (by simp; omega)⟩, h2.fr hf (by decide), h3.fr hf (by decide), h4.fr hf (by decide), h5.fr hf (by decide), h6.fr hf (by decide), ⟨nx, h7.fr hf (by decide)⟩, h8.fr hf (by decide), hR, h10.fr hf (by decide)⟩
theorem ClsIs.setTo {to' : Nat × (Nat → Int64)} (h : ClsIs σ tx bd sk tw xs ld pa sh ru to) (hf : FrG [30] σ σ') (hT : ToldIs σ' to'.1 to'.2) : ClsIs σ' tx bd sk tw xs ld pa sh ru to' := by
  obtain ⟨⟨kr, k1, k2, k3, k4⟩, h2, h3, h4, h5, h6, ⟨nx, h7⟩, h8, h9, -⟩ := h
  have hk := zR_cases k1
  exact ⟨⟨kr, k1, by rw [hf.2]; exact k2, by rw [hf.2]; exact k3, k4.fr hf (by simp; omega)⟩, h2.fr hf (by decide), h3.fr hf (by decide), h4.fr hf (by decide), h5.fr hf (by decide), h6.fr hf (by decide), ⟨nx, h7.fr hf (by decide)⟩, h8.fr hf (by decide), h9.fr hf (by decide), hT⟩
/-- crossings over land k (6, 7 or 8) by the ruling rule -/
theorem ClsIs.w {kl : Nat} {ρ : Nat → Nat} {n : Nat} (h : ClsIs σ tx bd sk tw xs ld pa sh ru to) (hk : zL kl = true) (hL : LandIs σ kl n ρ) : ∃ kr, (kr = 31 ∨ kr = 32) ∧ zRl kr = true ∧ σ.2.2.2 14 = kr ∧ WIs σ kr kl (vOf bd sk xs n) ρ := by
  obtain ⟨⟨kr, k1, k2, k3, k4⟩, h2, h3, h4, h5, h6, ⟨nx, h7⟩, h8, h9, h10⟩ := h
  exact ⟨kr, zR_cases k1, k1, k2, ⟨k1, hk⟩, ⟨xs, rfl, k4⟩, h3, h4, hL⟩
end CF
