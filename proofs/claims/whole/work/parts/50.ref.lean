/-! the reference: one object (group 33). Which of its fields and rows stay -/
def Fr9 (fs js : List Nat) (σ σ' : zT) : Prop := FrG [33] σ σ' ∧ (∀ f, f ∉ fs → σ'.1 33 f = σ.1 33 f) ∧ (∀ j, j ∉ js → σ'.2.1 33 j = σ.2.1 33 j) ∧ (1 ∉ js → σ'.2.2.1 33 = σ.2.2.1 33)
theorem Fr9.rf {fs js : List Nat} {σ : zT} : Fr9 fs js σ σ := ⟨FrG.rf, fun _ _ => rfl, fun _ _ => rfl, fun _ => rfl⟩
theorem Fr9.tr {fs js : List Nat} {a b c : zT} (h : Fr9 fs js a b) (h2 : Fr9 fs js b c) : Fr9 fs js a c :=
  ⟨h.1.tr h2.1, fun f q => (h2.2.1 f q).trans (h.2.1 f q), fun j q => (h2.2.2.1 j q).trans (h.2.2.1 j q), fun q => (h2.2.2.2 q).trans (h.2.2.2 q)⟩
theorem Fr9.mono {fs js fs2 js2 : List Nat} {a b : zT} (h : Fr9 fs js a b) (h1 : ∀ q ∈ fs, q ∈ fs2) (h2 : ∀ q ∈ js, q ∈ js2) : Fr9 fs2 js2 a b :=
  ⟨h.1, fun f q => h.2.1 f (fun z => q (h1 f z)), fun j q => h.2.2.1 j (fun z => q (h2 j z)), fun q => h.2.2.2 (fun z => q (h2 1 z))⟩
theorem Fr9.uS {fs js : List Nat} {a σ : zT} {f : Nat} {v : Int32} (h : Fr9 fs js a σ) (hf : f ∈ fs) : Fr9 fs js a (uS σ 33 f v) :=
  ⟨h.1.uS (by simp), fun g hg => by rw [uS_1, if_neg (fun (e : 33 = 33 ∧ g = f) => hg (e.2 ▸ hf))]; exact h.2.1 g hg, h.2.2.1, h.2.2.2⟩
theorem Fr9.uA {fs js : List Nat} {a σ : zT} {j : Nat} {g : Nat → Int32} (h : Fr9 fs js a σ) (hj : j ∈ js) : Fr9 fs js a (uA σ 33 j g) :=
  ⟨h.1.uA (by simp), h.2.1, fun q hq => by rw [uA_2, if_neg (fun (e : 33 = 33 ∧ q = j) => hq (e.2 ▸ hj))]; exact h.2.2.1 q hq, h.2.2.2⟩
theorem Fr9.uL {fs js : List Nat} {a σ : zT} {g : Nat → Int64} (h : Fr9 fs js a σ) (hj : 1 ∈ js) : Fr9 fs js a (uL σ 33 g) :=
  ⟨h.1.uL (by simp), h.2.1, h.2.2.1, fun q => absurd hj q⟩
/-! its state in whole -/
def usual : List Nat := [1000, 5, 2005, 1001, 10, 2005, 2003]
def CodeIs (σ : zT) (xs : List Nat) : Prop := (dpL xs 0 = some 1 ∧ xs.length ≤ 40 ∧ ∀ t ∈ xs, tokOK t) ∧ ∃ ys : List Nat, (ys = xs ∨ (ys = [] ∧ xs = usual)) ∧ σ.1 33 23 = nI ys.length ∧ ∀ j t, ys[j]? = some t → σ.2.1 33 11 j = nI t
def TapeIs (σ : zT) (L : Nat) (f : Nat → Nat) : Prop := σ.1 33 15 = nI L ∧ L ≤ 80 ∧ ∀ i, i < 80 → σ.2.1 33 9 i = nI (f i) ∧ f i < 256
def CarIs (σ : zT) (nc : Nat) (kd ld : Nat → Nat) : Prop := nc ≤ 8 ∧ σ.1 33 4 = nI nc ∧ ∀ i, i < nc → σ.2.1 33 3 i = nI (kd i) ∧ σ.2.1 33 4 i = nI (ld i) ∧ kd i ≤ 4 ∧ 1 ≤ ld i ∧ ld i ≤ 9
def SkyR (σ : zT) (ns : Nat) (sk : Nat → Nat) : Prop := 1 ≤ ns ∧ ns ≤ 20 ∧ σ.1 33 6 = nI ns ∧ ∀ i, i < ns → σ.2.1 33 2 i = nI (sk i) ∧ sk i ≤ 3
def SortIs (σ : zT) (ns : Nat) (pe pu : Nat → Nat) : Prop := ns ≤ 8 ∧ σ.1 33 5 = nI ns ∧ ∀ i, i < ns → σ.2.1 33 5 i = nI (pe i) ∧ σ.2.1 33 6 i = nI (pu i) ∧ 1 ≤ pe i ∧ pe i ≤ 99 ∧ pu i ≤ 99
def RwIs (σ : zT) (j : Nat) (ρ : Nat → Nat) : Prop := ∀ i, i < 29 → σ.2.1 33 j i = nI (ρ i)
def NowIs (σ : zT) (n : Nat) (ρ : Nat → Nat) : Prop := σ.1 33 3 = nI n ∧ RowOK n ρ ∧ RwIs σ 7 ρ
def UndoIs (σ : zT) (sz n : Nat) (Hs : Nat → Nat → Nat) : Prop := sz ≤ 15 ∧ σ.1 33 29 = nI sz ∧ ∀ i, i < sz → RowOK n (Hs i) ∧ ∀ k, k < 29 → σ.2.1 33 15 (29 * i + k) = nI (Hs i k)
def KeptIs (σ : zT) (fl n : Nat) (Kp : Nat → Nat → Nat) : Prop := fl < 8 ∧ ∀ i, i < 3 → σ.2.1 33 25 i = zb (fl.testBit i) ∧ (fl.testBit i = true → RowOK n (Kp i) ∧ ∀ k, k < 29 → σ.2.1 33 26 (29 * i + k) = nI (Kp i k))
def HearIs (σ : zT) (h : Nat) (wh vl : Nat → Nat) : Prop := h ≤ 12 ∧ σ.1 33 39 = nI h ∧ ∀ i, i < h → σ.2.1 33 22 i = nI (wh i) ∧ σ.2.1 33 23 i = nI (vl i) ∧ wh i ≤ 2 ∧ vl i ≤ 9 ∧ (wh i = 2 → vl i ≤ 1)
def TellIs (σ : zT) (t : Nat) (g : Nat → Int64) : Prop := t ≤ 12 ∧ σ.1 33 1 = nI t ∧ ∀ i, i < t → σ.2.2.1 33 i = g i
def RefIs (σ : zT) (tx : Nat × (Nat → Nat)) (bd : Nat × (Nat → Nat) × (Nat → Nat)) (sk : Nat × (Nat → Nat)) (tw : Nat × (Nat → Nat) × (Nat → Nat)) (xs : List Nat) (ld : Nat × (Nat → Nat)) (pa sh : Nat × (Nat → Nat → Nat)) (ru : Nat × (Nat → Nat) × (Nat → Nat)) (to : Nat × (Nat → Int64)) : Prop :=
  CodeIs σ xs ∧ TapeIs σ tx.1 tx.2 ∧ CarIs σ bd.1 bd.2.1 bd.2.2 ∧ SkyR σ sk.1 sk.2 ∧ SortIs σ tw.1 tw.2.1 tw.2.2 ∧ NowIs σ ld.1 ld.2 ∧ UndoIs σ pa.1 ld.1 pa.2 ∧ KeptIs σ sh.1 ld.1 sh.2 ∧ HearIs σ ru.1 ru.2.1 ru.2.2 ∧ TellIs σ to.1 to.2
section Fr9s
variable {σ σ' : zT} {fs js : List Nat}
theorem CodeIs.fr {xs : List Nat} (h : CodeIs σ xs) (hf : Fr9 fs js σ σ') (h1 : 23 ∉ fs) (h2 : 11 ∉ js) : CodeIs σ' xs := by
  obtain ⟨a, ys, b, c, d⟩ := h
  exact ⟨a, ys, b, by rw [hf.2.1 _ h1]; exact c, fun j t q => by rw [hf.2.2.1 _ h2]; exact d j t q⟩
theorem TapeIs.fr {L : Nat} {f : Nat → Nat} (h : TapeIs σ L f) (hf : Fr9 fs js σ σ') (h1 : 15 ∉ fs) (h2 : 9 ∉ js) : TapeIs σ' L f :=
  ⟨by rw [hf.2.1 _ h1]; exact h.1, h.2.1, fun i hi => by rw [hf.2.2.1 _ h2]; exact h.2.2 i hi⟩
theorem CarIs.fr {nc : Nat} {kd ld : Nat → Nat} (h : CarIs σ nc kd ld) (hf : Fr9 fs js σ σ') (h1 : 4 ∉ fs) (h2 : 3 ∉ js) (h3 : 4 ∉ js) : CarIs σ' nc kd ld :=
  ⟨h.1, by rw [hf.2.1 _ h1]; exact h.2.1, fun i hi => by rw [hf.2.2.1 _ h2, hf.2.2.1 _ h3]; exact h.2.2 i hi⟩
theorem SkyR.fr {ns : Nat} {sk : Nat → Nat} (h : SkyR σ ns sk) (hf : Fr9 fs js σ σ') (h1 : 6 ∉ fs) (h2 : 2 ∉ js) : SkyR σ' ns sk :=
  ⟨h.1, h.2.1, by rw [hf.2.1 _ h1]; exact h.2.2.1, fun i hi => by rw [hf.2.2.1 _ h2]; exact h.2.2.2 i hi⟩
theorem SortIs.fr {ns : Nat} {pe pu : Nat → Nat} (h : SortIs σ ns pe pu) (hf : Fr9 fs js σ σ') (h1 : 5 ∉ fs) (h2 : 5 ∉ js) (h3 : 6 ∉ js) : SortIs σ' ns pe pu :=
  ⟨h.1, by rw [hf.2.1 _ h1]; exact h.2.1, fun i hi => by rw [hf.2.2.1 _ h2, hf.2.2.1 _ h3]; exact h.2.2 i hi⟩
theorem RwIs.fr {j : Nat} {ρ : Nat → Nat} (h : RwIs σ j ρ) (hf : Fr9 fs js σ σ') (h2 : j ∉ js) : RwIs σ' j ρ := fun i hi => by rw [hf.2.2.1 _ h2]; exact h i hi
theorem NowIs.fr {n : Nat} {ρ : Nat → Nat} (h : NowIs σ n ρ) (hf : Fr9 fs js σ σ') (h1 : 3 ∉ fs) (h2 : 7 ∉ js) : NowIs σ' n ρ := ⟨by rw [hf.2.1 _ h1]; exact h.1, h.2.1, h.2.2.fr hf h2⟩
theorem UndoIs.fr {sz n : Nat} {Hs : Nat → Nat → Nat} (h : UndoIs σ sz n Hs) (hf : Fr9 fs js σ σ') (h1 : 29 ∉ fs) (h2 : 15 ∉ js) : UndoIs σ' sz n Hs :=
  ⟨h.1, by rw [hf.2.1 _ h1]; exact h.2.1, fun i hi => ⟨(h.2.2 i hi).1, fun k hk => by rw [hf.2.2.1 _ h2]; exact (h.2.2 i hi).2 k hk⟩⟩
theorem KeptIs.fr {fl n : Nat} {Kp : Nat → Nat → Nat} (h : KeptIs σ fl n Kp) (hf : Fr9 fs js σ σ') (h1 : 25 ∉ js) (h2 : 26 ∉ js) : KeptIs σ' fl n Kp :=
  ⟨h.1, fun i hi => ⟨by rw [hf.2.2.1 _ h1]; exact (h.2 i hi).1, fun q => ⟨((h.2 i hi).2 q).1, fun k hk => by rw [hf.2.2.1 _ h2]; exact ((h.2 i hi).2 q).2 k hk⟩⟩⟩
theorem HearIs.fr {h : Nat} {wh vl : Nat → Nat} (hh : HearIs σ h wh vl) (hf : Fr9 fs js σ σ') (h1 : 39 ∉ fs) (h2 : 22 ∉ js) (h3 : 23 ∉ js) : HearIs σ' h wh vl :=
  ⟨hh.1, by rw [hf.2.1 _ h1]; exact hh.2.1, fun i hi => by rw [hf.2.2.1 _ h2, hf.2.2.1 _ h3]; exact hh.2.2 i hi⟩
theorem TellIs.fr {t : Nat} {g : Nat → Int64} (h : TellIs σ t g) (hf : Fr9 fs js σ σ') (h1 : 1 ∉ fs) (h2 : 1 ∉ js) : TellIs σ' t g :=
  ⟨h.1, by rw [hf.2.1 _ h1]; exact h.2.1, fun i hi => by rw [hf.2.2.2 h2]; exact h.2.2 i hi⟩
end Fr9s
/-- fields and rows in which nothing stands between two calls -/
def scF (f : Nat) : Bool := [0, 16, 17, 18, 20, 24, 27, 28, 35, 38, 43].contains f
def scJ (j : Nat) : Bool := [8, 10, 12, 13, 14, 16, 17, 18, 19, 20, 21, 24].contains j
section RFs
variable {σ σ' : zT} {tx : Nat × (Nat → Nat)} {bd : Nat × (Nat → Nat) × (Nat → Nat)} {sk : Nat × (Nat → Nat)} {tw : Nat × (Nat → Nat) × (Nat → Nat)} {xs : List Nat} {ld : Nat × (Nat → Nat)} {pa sh : Nat × (Nat → Nat → Nat)} {ru : Nat × (Nat → Nat) × (Nat → Nat)} {to : Nat × (Nat → Int64)} {fs js : List Nat}
theorem sc_f {a : Nat} (h : ∀ f ∈ fs, scF f = true) (ha : scF a = false) : a ∉ fs := fun q => by rw [h a q] at ha; cases ha
theorem sc_j {a : Nat} (h : ∀ f ∈ js, scJ f = true) (ha : scJ a = false) : a ∉ js := fun q => by rw [h a q] at ha; cases ha
theorem RefIs.fr (h : RefIs σ tx bd sk tw xs ld pa sh ru to) (hf : Fr9 fs js σ σ') (h1 : ∀ f ∈ fs, scF f = true) (h2 : ∀ j ∈ js, scJ j = true) : RefIs σ' tx bd sk tw xs ld pa sh ru to := by
  obtain ⟨a1, a2, a3, a4, a5, a6, a7, a8, a9, a10⟩ := h
  exact ⟨a1.fr hf (sc_f h1 rfl) (sc_j h2 rfl), a2.fr hf (sc_f h1 rfl) (sc_j h2 rfl), a3.fr hf (sc_f h1 rfl) (sc_j h2 rfl) (sc_j h2 rfl), a4.fr hf (sc_f h1 rfl) (sc_j h2 rfl), a5.fr hf (sc_f h1 rfl) (sc_j h2 rfl) (sc_j h2 rfl), a6.fr hf (sc_f h1 rfl) (sc_j h2 rfl), a7.fr hf (sc_f h1 rfl) (sc_j h2 rfl), a8.fr hf (sc_j h2 rfl) (sc_j h2 rfl), a9.fr hf (sc_f h1 rfl) (sc_j h2 rfl) (sc_j h2 rfl), a10.fr hf (sc_f h1 rfl) (sc_j h2 rfl)⟩
theorem RefIs.w (h : RefIs σ tx bd sk tw xs ld pa sh ru to) : CodeIs σ xs ∧ CarIs σ bd.1 bd.2.1 bd.2.2 ∧ SkyR σ sk.1 sk.2 ∧ NowIs σ ld.1 ld.2 := ⟨h.1, h.2.2.1, h.2.2.2.1, h.2.2.2.2.2.1⟩
end RFs
/-- a crossing over row j (7 now, 8 then) by the reference -/
def zM (j : Nat) : Bool := Nat.beq j 7 || Nat.beq j 8
theorem zM_or {j : Nat} (h : zM j = true) : j = 7 ∨ j = 8 := by
  simp only [zM, Bool.or_eq_true] at h
  rcases h with h | h
  · exact Or.inl (Nat.eq_of_beq_eq_true h)
  · exact Or.inr (Nat.eq_of_beq_eq_true h)
theorem zM_ar {j : Nat} (h : zM j = true) : zak 33 j = (0, 29) := by rcases zM_or h with rfl | rfl <;> rfl
theorem zM_jn {j : Nat} (h : zM j = true) : zJn 33 j = true := by rcases zM_or h with rfl | rfl <;> rfl
def EnvR (σ : zT) (V : zV) : Prop := CodeIs σ (vX V) ∧ CarIs σ (vC V) (vK V) (vL V) ∧ SkyR σ (vS V) (vW V) ∧ σ.1 33 3 = nI (vN V)
theorem EnvR.fr {σ σ' : zT} {fs js : List Nat} {V : zV} (h : EnvR σ V) (hf : Fr9 fs js σ σ') (h1 : ∀ f ∈ fs, f ≠ 23 ∧ f ≠ 4 ∧ f ≠ 6 ∧ f ≠ 3) (h2 : ∀ j ∈ js, j ≠ 11 ∧ j ≠ 3 ∧ j ≠ 4 ∧ j ≠ 2) : EnvR σ' V :=
  ⟨h.1.fr hf (fun q => (h1 _ q).1 rfl) (fun q => (h2 _ q).1 rfl), h.2.1.fr hf (fun q => (h1 _ q).2.1 rfl) (fun q => (h2 _ q).2.1 rfl) (fun q => (h2 _ q).2.2.1 rfl), h.2.2.1.fr hf (fun q => (h1 _ q).2.2.1 rfl) (fun q => (h2 _ q).2.2.2 rfl), by rw [hf.2.1 _ (fun q => (h1 _ q).2.2.2 rfl)]; exact h.2.2.2⟩
theorem EnvR.vok {σ : zT} {V : zV} {ρ : Nat → Nat} (h : EnvR σ V) (hok : RowOK (vN V) ρ) : VOK V :=
  ⟨hok.1, hok.2.1, h.2.1.1, fun c hc => (h.2.1.2.2 c hc).2.2, h.2.2.1.1, h.2.2.1.2.1, fun i hi => (h.2.2.1.2.2.2 i hi).2, fun a b c d e => rsk_le _ _ _ _ _ _⟩
theorem RefIs.env {σ : zT} {tx : Nat × (Nat → Nat)} {bd : Nat × (Nat → Nat) × (Nat → Nat)} {sk : Nat × (Nat → Nat)} {tw : Nat × (Nat → Nat) × (Nat → Nat)} {xs : List Nat} {ld : Nat × (Nat → Nat)} {pa sh : Nat × (Nat → Nat → Nat)} {ru : Nat × (Nat → Nat) × (Nat → Nat)} {to : Nat × (Nat → Int64)} (h : RefIs σ tx bd sk tw xs ld pa sh ru to) : EnvR σ (vOf bd sk xs ld.1) := ⟨h.1, h.2.2.1, h.2.2.2.1, h.2.2.2.2.2.1.1⟩
/-! longs and ints -/
theorem zl_i (x : Int32) : x.toInt64.toInt = x.toInt := by simp
theorem zl_N {n : Nat} (h : n < 2 ^ 63) : (lN n).toInt = (n : Int) := by
  show (Int64.ofNat n).toInt = (n : Int)
  exact Int64.toInt_ofNat_of_lt h
theorem zi_p {n : Nat} (h : n < 2 ^ 31) : (nI n - nI 1).toInt = (n : Int) - 1 := by
  cases n with
  | zero => decide
  | succ n => rw [pk_sub (by omega), nI_toInt (by omega)]; omega
