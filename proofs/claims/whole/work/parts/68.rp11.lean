/-! beats: the reference's order of placings is the class's -/
def itN {α : Type} (f : Nat → α → α) : Nat → α → α
  | 0, a => a
  | k + 1, a => f k (itN f k a)
def sR (n : Nat) (L : (Nat → Nat) → Nat) : Nat → Nat → Nat → (Nat → Nat) → Nat × (Nat → Nat) → Nat × (Nat → Nat)
  | 0, m, left, p, st => evp n L (fstP n m left p) st
  | t + 1, m, left, p, st => itN (fun k st => sR n L t (m + 1) (left - k) (va_up p m k) st) (left + 1) st
def lstP (m left : Nat) (p : Nat → Nat) : Nat → Nat := fun i => if i < m then p i else if i = m then left else 0
def cN : Nat → Nat → Nat
  | 0, _ => 1
  | t + 1, left => sumN (left + 1) (fun k => cN t (left - k))
theorem cN_b : ∀ t, t < 12 → ∀ k, k < 5 → cN t k < 99999 := by decide +kernel
theorem frm_eq {p : Nat → Nat} {a : Nat} (ha : p a ≠ 0) (h1 : 1 ≤ a) : ∀ j, a ≤ j → (∀ i, a < i → i ≤ j → p i = 0) → frm p j = a
  | 0, h, _ => by omega
  | j + 1, h, hz => by
    rw [frm]
    by_cases e : a = j + 1
    · subst e; rw [if_neg ha]
    · rw [if_pos (hz (j + 1) (by omega) (Nat.le_refl _))]
      exact frm_eq ha h1 j (by omega) (fun i hi hij => hz i hi (by omega))
theorem frm_0 {p : Nat → Nat} : ∀ j, (∀ i, 1 ≤ i → i ≤ j → p i = 0) → frm p j = 0
  | 0, _ => rfl
  | j + 1, hz => by rw [frm, if_pos (hz (j + 1) (by omega) (Nat.le_refl _))]; exact frm_0 j (fun i hi hij => hz i hi (by omega))
theorem nx_lst {n m c k : Nat} {p : Nat → Nat} (hm : m + 1 < n) (hc : 0 < c) : nxP (n - 1) (lstP (m + 1) c (va_up p m k)) = some (fstP n (m + 1) (c - 1) (va_up p m (k + 1))) := by
  have e1 : lstP (m + 1) c (va_up p m k) (m + 1) = c := by unfold lstP; rw [if_neg (by omega), if_pos rfl]
  have e2 : lstP (m + 1) c (va_up p m k) m = k := by unfold lstP; rw [if_pos (by omega), va_at', if_pos rfl]
  have ef : frm (lstP (m + 1) c (va_up p m k)) (n - 1) = m + 1 := frm_eq (by rw [e1]; omega) (by omega) _ (by omega) (fun i h1 h2 => by unfold lstP; rw [if_neg (by omega), if_neg (by omega)])
  unfold nxP
  rw [ef, if_neg (by omega), show m + 1 - 1 = m from rfl, e1, e2]
  congr 1
  funext i
  simp only [va_at', fstP, lstP]
  by_cases h1 : i = n - 1
  · rw [if_pos h1, if_neg (by omega), if_pos (by omega)]
  · rw [if_neg h1]
    by_cases h2 : i = m
    · rw [if_pos h2, if_pos (by omega), if_pos h2]
    · rw [if_neg h2]
      by_cases h3 : i = m + 1
      · rw [if_pos h3, if_neg (by omega), if_neg (by omega)]
      · rw [if_neg h3]
        by_cases h4 : i < m + 1
        · rw [if_pos h4, if_pos h4, if_neg h2, if_neg h2]
        · rw [if_neg h4, if_neg h4, if_neg (by omega), if_neg (by omega)]
theorem runC_app {n : Nat} {L : (Nat → Nat) → Nat} {l J2 : Nat} : ∀ (J1 : Nat) (p : Nat → Nat) (st : Nat × (Nat → Nat)) {q p2 : Nat → Nat} {s1 : Nat × (Nat → Nat)}, runC n L l J1 p st = (q, s1) → nxP l q = some p2 → runC n L l (J1 + 1 + J2) p st = runC n L l J2 p2 s1
  | 0, p, st, q, p2, s1, h, hq => by
    have e : (p, evp n L p st) = (q, s1) := h
    cases e
    rw [show 0 + 1 + J2 = J2 + 1 by omega, runC, hq]
  | J1 + 1, p, st, q, p2, s1, h, hq => by
    rw [show J1 + 1 + 1 + J2 = (J1 + 1 + J2) + 1 by omega, runC]
    rw [runC] at h
    cases hp : nxP l p with
    | none =>
      rw [hp] at h
      cases h
      rw [hp] at hq
      cases hq
    | some p3 =>
      rw [hp] at h
      exact runC_app J1 p3 _ h hq
theorem chain {n : Nat} {L : (Nat → Nat) → Nat} : ∀ (t m left : Nat) (p : Nat → Nat) (st : Nat × (Nat → Nat)), m + t + 1 = n → ∃ J, J + 1 = cN t left ∧ runC n L (n - 1) J (fstP n m left p) st = (lstP m left p, sR n L t m left p st)
  | 0, m, left, p, st, h => ⟨0, rfl, by
    have e : fstP n m left p = lstP m left p := by
      funext i
      unfold fstP lstP
      by_cases h1 : i < m
      · rw [if_pos h1, if_pos h1]
      · rw [if_neg h1, if_neg h1]
        by_cases h2 : i = m
        · rw [if_pos (by omega), if_pos h2]
        · rw [if_neg (by omega), if_neg h2]
    show (fstP n m left p, evp n L (fstP n m left p) st) = _
    rw [show sR n L 0 m left p st = evp n L (fstP n m left p) st from rfl, e]⟩
  | t + 1, m, left, p, st, h => by
    have key : ∀ k, k ≤ left → ∃ J, J + 1 = sumN (k + 1) (fun j => cN t (left - j)) ∧ runC n L (n - 1) J (fstP n m left p) st = (lstP (m + 1) (left - k) (va_up p m k), itN (fun k st => sR n L t (m + 1) (left - k) (va_up p m k) st) (k + 1) st) := by
      intro k
      induction k with
      | zero =>
        intro _
        obtain ⟨J, h1, h2⟩ := chain (n := n) (L := L) t (m + 1) left (va_up p m 0) st (by omega)
        have e : fstP n m left p = fstP n (m + 1) left (va_up p m 0) := by
          funext i
          unfold fstP
          by_cases h3 : i < m
          · rw [if_pos h3, if_pos (by omega), va_at', if_neg (by omega)]
          · rw [if_neg h3]
            by_cases h4 : i = m
            · rw [if_neg (by omega), if_pos (by omega), va_at', if_pos h4]
            · rw [if_neg (show ¬ i < m + 1 by omega)]
        refine ⟨J, ?_, ?_⟩
        · rw [h1, sumN, sumN, Nat.sub_zero, Nat.zero_add]
        · rw [e, h2]; rfl
      | succ k ih =>
        intro hk
        obtain ⟨J1, h1, h2⟩ := ih (by omega)
        have hx := nx_lst (n := n) (m := m) (c := left - k) (k := k) (p := p) (by omega) (by omega)
        obtain ⟨J2, h3, h4⟩ := chain (n := n) (L := L) t (m + 1) (left - (k + 1)) (va_up p m (k + 1)) (itN (fun k st => sR n L t (m + 1) (left - k) (va_up p m k) st) (k + 1) st) (by omega)
        refine ⟨J1 + 1 + J2, ?_, ?_⟩
        · rw [sumN, ← h1, ← h3]; omega
        · rw [runC_app J1 _ _ h2 hx, show left - k - 1 = left - (k + 1) by omega, h4]; rfl
    obtain ⟨J, h1, h2⟩ := key left (Nat.le_refl _)
    refine ⟨J, h1, ?_⟩
    rw [h2, Nat.sub_self]
    have e : lstP (m + 1) 0 (va_up p m left) = lstP m left p := by
      funext i
      unfold lstP
      by_cases h3 : i < m
      · rw [if_pos (by omega), if_pos h3, va_at', if_neg (by omega)]
      · rw [if_neg h3]
        by_cases h4 : i = m
        · rw [if_pos (by omega), if_pos h4, va_at', if_pos h4]
        · rw [if_neg (by omega), if_neg h4]; split <;> rfl
    rw [e]
    rfl
def bS (V : zV) (ρ : Nat → Nat) (k : Nat) : Nat × (Nat → Nat) := sR (vN V) (lpl V ρ) (vN V - 1) 0 k (fun _ => 0) (1000000, fun _ => 0)
theorem beats_J {V : zV} {ρ : Nat → Nat} {k : Nat} (h1 : 1 ≤ vN V) (h2 : vN V ≤ 12) (hk : k ≤ 4) : ∃ J, J < 99999 ∧ nxP (vN V - 1) (btC V ρ k J).1 = none ∧ (btC V ρ k J).2 = bS V ρ k := by
  obtain ⟨J, e1, e2⟩ := chain (n := vN V) (L := lpl V ρ) (vN V - 1) 0 k (fun _ => 0) (1000000, fun _ => 0) (by omega)
  have hb := cN_b (vN V - 1) (by omega) k (by omega)
  refine ⟨J, by omega, ?_, ?_⟩
  · unfold btC
    rw [e2]
    dsimp only
    unfold nxP
    rw [frm_0 _ (fun i h3 h4 => by unfold lstP; rw [if_neg (by omega), if_neg (by omega)]), if_pos rfl]
  · unfold btC
    rw [e2]
    rfl
theorem evp_le {n : Nat} {L : (Nat → Nat) → Nat} {B : Nat} {p : Nat → Nat} {st : Nat × (Nat → Nat)} (hL : L p ≤ B) (hB : B < 1000000) (h : st.1 ≤ B ∨ st.1 = 1000000) : (evp n L p st).1 ≤ B := by
  unfold evp
  split
  · exact hL
  · omega
theorem sR_le {n : Nat} {L : (Nat → Nat) → Nat} {B : Nat} (hL : ∀ p, (∀ i, i < n → p i ≤ 4) → L p ≤ B) (hB : B < 1000000) : ∀ (t m left : Nat) (p : Nat → Nat) (st : Nat × (Nat → Nat)), m + t + 1 = n → left ≤ 4 → (∀ i, i < m → p i ≤ 4) → (st.1 ≤ B ∨ st.1 = 1000000) → (sR n L t m left p st).1 ≤ B
  | 0, m, left, p, st, h, hl, hp, hs => evp_le (hL _ (fun i hi => by unfold fstP; split; exact hp i (by assumption); split <;> omega)) hB hs
  | t + 1, m, left, p, st, h, hl, hp, hs => by
    have key : ∀ k, k ≤ left + 1 → (itN (fun k st => sR n L t (m + 1) (left - k) (va_up p m k) st) k st).1 ≤ B ∨ (itN (fun k st => sR n L t (m + 1) (left - k) (va_up p m k) st) k st).1 = 1000000 := by
      intro k
      induction k with
      | zero => exact fun _ => hs
      | succ k ih =>
        intro hk
        exact Or.inl (sR_le hL hB t (m + 1) (left - k) (va_up p m k) _ (by omega) (by omega) (fun i hi => by rw [va_at']; split; omega; exact hp i (by omega)) (ih (by omega)))
    exact sR_le hL hB t (m + 1) (left - left) (va_up p m left) _ (by omega) (by omega) (fun i hi => by rw [va_at']; split; omega; exact hp i (by omega)) (key left (by omega))
theorem lpl_le {V : zV} {ρ : Nat → Nat} (hV : VOK V) (hok : RowOK (vN V) ρ) : ∀ p : Nat → Nat, (∀ i, i < vN V → p i ≤ 4) → lpl V ρ p ≤ 72 := fun p hp => Nat.le_trans (crs_ok (st := 0) hV (plc_ok hok (fun i hi => by have := hp i hi; omega)) (vC V) (Nat.le_refl _)).2.2.1 (Nat.mul_le_mul_left 9 hV.2.2.1)
theorem bS_le {V : zV} {ρ : Nat → Nat} {k : Nat} (hV : VOK V) (hok : RowOK (vN V) ρ) (hk : k ≤ 4) : (bS V ρ k).1 ≤ 72 := sR_le (lpl_le hV hok) (by decide) _ 0 k _ _ (by have := hok.1; omega) hk (fun i hi => absurd hi (Nat.not_lt_zero _)) (Or.inr rfl)
/-- beats of the class in the reference's order -/
theorem c_X11_beatsS {E : zE} {σ : zT} {tx : Nat × (Nat → Nat)} {bd : Nat × (Nat → Nat) × (Nat → Nat)} {sk : Nat × (Nat → Nat)} {tw : Nat × (Nat → Nat) × (Nat → Nat)} {xs : List Nat} {ld : Nat × (Nat → Nat)} {pa sh : Nat × (Nat → Nat → Nat)} {ru : Nat × (Nat → Nat) × (Nat → Nat)} {to : Nat × (Nat → Int64)} {k : Int32} (hC : ClsIs σ tx bd sk tw xs ld pa sh ru to) : CalM E 6 yX11_beats cX11_beats 7 (some .int) [.ref (zA E 0 0), .int k] σ (fun r σ' => r = some (.int (if in0 k 4 then nI (bS (vOf bd sk xs ld.1) ld.2 k.toInt.toNat).1 else -1)) ∧ ClsIs σ' tx bd sk tw xs ld pa sh ru (if in0 k 4 then (ld.1, fun i => lN ((bS (vOf bd sk xs ld.1) ld.2 k.toInt.toNat).2 i)) else to) ∧ Fr33 σ σ') := by
  have hL := hC.2.2.2.2.2.1
  obtain ⟨kr, hkr, hz, hR14, hW⟩ := hC.w (kl := 6) rfl hL
  by_cases hin : in0 k 4
  · obtain ⟨J, h1, h2, h3⟩ := beats_J (V := vOf bd sk xs ld.1) (ρ := ld.2) (k := k.toInt.toNat) hL.b.1 hL.b.2 (by omega)
    refine cal_weak (c_X11_beats (J := J) hC h1 (fun _ => h2)) (fun r σ' q => ?_)
    rw [if_pos hin, if_pos hin, h3] at q
    have h72 := bS_le hW.vok hL.1 (k := k.toInt.toNat) (by omega)
    rw [if_pos hin, if_pos hin]
    unfold toB at q
    rw [if_neg (by omega)] at q
    exact q
  · refine cal_weak (c_X11_beats (J := 0) hC (by decide) (fun h => absurd h hin)) (fun r σ' q => ?_)
    rw [if_neg hin, if_neg hin] at q
    rw [if_neg hin, if_neg hin]
    exact q

def SIs (τ : zT) (n : Nat) (st : Nat × (Nat → Nat)) : Prop := τ.1 33 38 = nI st.1 ∧ st.1 ≤ 1000000 ∧ (st.1 < 1000000 → ∀ i, i < n → τ.2.1 33 21 i = nI (st.2 i))
theorem SIs.fr {fs js : List Nat} {σ σ' : zT} {n : Nat} {st : Nat × (Nat → Nat)} (h : SIs σ n st) (hf : Fr9 fs js σ σ') (h1 : 38 ∉ fs) (h2 : 21 ∉ js) : SIs σ' n st := ⟨by rw [hf.2.1 _ h1]; exact h.1, h.2.1, fun q i hi => by rw [hf.2.2.1 _ h2]; exact h.2.2 q i hi⟩

theorem c_stands0 {E : zE} {V : zV} {ρ : Nat → Nat} (hok : RowOK (vN V) ρ) (hq28 : ρ 28 + 72 < 2 ^ 28) : ∀ (m left : Nat) (p : Nat → Nat) (st : Nat × (Nat → Nat)) (σ : zT), EnvR σ V → RwIs σ 7 ρ → m + 0 + 1 = vN V → left ≤ 4 → (∀ i, i < m → σ.2.1 33 20 i = nI (p i) ∧ p i ≤ 4) → SIs σ (vN V) st → CalM E (9 + 0) yX12_stands cX12_stands 5 none [.ref (zA E 33 0), .int (nI m), .int (nI left)] σ (fun r σ' => r = none ∧ SIs σ' (vN V) (sR (vN V) (lpl V ρ) 0 m left p st) ∧ (∀ i, i < m → σ'.2.1 33 20 i = σ.2.1 33 20 i) ∧ Fr9 [27, 28, 38] [8, 13, 14, 16, 20, 21] σ σ') := by
  intro m left p st σ hE hw hmt hleft hp hS
  have hn : 1 ≤ vN V ∧ vN V ≤ 12 := ⟨hok.1, hok.2.1⟩
  have hV := hE.vok hok
  have hq4 : ∀ i, i < vN V → (fstP (vN V) m left p) i ≤ 4 := fun i hi => by
    unfold fstP
    split
    · exact (hp i (by assumption)).2
    · split <;> omega
  have hl72 := lpl_le hV hok (fstP (vN V) m left p) hq4
  have hS1 := hS.2.1
  refine cal_of_go (own := RX12) rfl (by decide +kernel) (Nat.le_of_ble_eq_true rfl) ?_
  have lo2 : lpl V ρ (fstP (vN V) m left p) < st.1 → ∀ (i : Nat) (τ : zT), i ≤ vN V → τ.1 33 38 = nI (lpl V ρ (fstP (vN V) m left p)) → (∀ j, j < vN V → τ.2.1 33 20 j = nI ((fstP (vN V) m left p) j)) → (∀ j, j < i → τ.2.1 33 21 j = nI ((fstP (vN V) m left p) j)) → Fr9 [27, 28, 38] [8, 13, 14, 16, 20, 21] σ τ → GoM E (9 + 0) RX12 cX12_stands 5 none (fun r σ' => r = none ∧ SIs σ' (vN V) (sR (vN V) (lpl V ρ) 0 m left p st) ∧ (∀ i, i < m → σ'.2.1 33 20 i = σ.2.1 33 20 i) ∧ Fr9 [27, 28, 38] [8, 13, 14, 16, 20, 21] σ σ') τ 74 [(0, .ref (zA E 33 0)), (1, .int (nI m)), (2, .int (nI left)), (3, .int (nI (lpl V ρ (fstP (vN V) m left p)))), (4, .int (nI i))] [] := by
    intro hlt i
    induction hz : vN V - i using Nat.strongRecOn generalizing i with
    | ind z ih =>
      intro τ hi h38 h20 h21 hF
      have hEt := hE.fr hF (by decide) (by decide)
      refine go_iload (pc := 74) dX12_stands_74 rfl ?_
      refine go_aload_n (i := 0) (pc := 76) dX12_stands_76 rfl rfl ?_
      refine go_geti fl_X12_13 (pc := 77) dX12_stands_77 (by rfl) ?_
      rw [hEt.2.2.2]
      refine go_icmp_ge 103 (pc := 80) dX12_stands_80 (by decide) (fun h80 => ?_) (fun h80 => ?_)
      · first | rw [nI_leI (by omega) (by omega)] at h80 | rw [zi_leN (by omega)] at h80 | rw [zi_Nle (by omega)] at h80 | rw [zi_le] at h80
        have e : i = vN V := by omega
        subst e
        refine go_return (pc := 103) dX12_stands_103 rfl ?_
        refine ⟨rfl, ?_, fun i hi => ?_, hF⟩
        · show SIs τ (vN V) (evp (vN V) (lpl V ρ) (fstP (vN V) m left p) st)
          unfold evp
          rw [if_pos hlt]
          refine ⟨h38, by dsimp only; omega, fun _ j hj => ?_⟩
          rw [h21 j hj]
          show nI ((fstP (vN V) m left p) j) = nI (cut (vN V) (fstP (vN V) m left p) j)
          unfold cut
          rw [if_pos hj]
        · rw [h20 i (by omega), (hp i hi).1]
          unfold fstP
          rw [if_pos hi]
      · first | rw [nI_leI (by omega) (by omega)] at h80 | rw [zi_leN (by omega)] at h80 | rw [zi_Nle (by omega)] at h80 | rw [zi_le] at h80
        refine go_aload_n (i := 0) (pc := 83) dX12_stands_83 rfl rfl ?_
        refine go_getr2 fl_X12_78 (pc := 84) dX12_stands_84 (by rfl) (by rfl) (by rfl) ?_
        refine go_iload (pc := 87) dX12_stands_87 rfl ?_
        refine go_aload_n (i := 0) (pc := 89) dX12_stands_89 rfl rfl ?_
        refine go_getr2 fl_X12_75 (pc := 90) dX12_stands_90 (by rfl) (by rfl) (by rfl) ?_
        refine go_iload (pc := 93) dX12_stands_93 rfl ?_
        refine go_iaload _ (pc := 95) dX12_stands_95 (by first | rfl | (apply zM_ar <;> assumption)) (by first | rfl | (apply zM_jn <;> assumption)) rfl (by first | assumption | omega) ?_
        rw [h20 i (by omega)]
        refine go_iastore _ (pc := 96) dX12_stands_96 (by first | rfl | (apply zM_ar <;> assumption)) (by first | rfl | (apply zM_jn <;> assumption)) rfl (by first | assumption | omega) ?_
        refine go_iincN (pc := 97) dX12_stands_97 rfl (by decide) ?_
        refine go_goto 74 (pc := 100) dX12_stands_100 (by decide) ?_
        exact ih (vN V - (i + 1)) (by omega) (i + 1) rfl _ (by omega) h38 (fun j hj => by rw [uA_2, if_neg (by decide)]; exact h20 j hj) (fun j hj => by rw [uA_s, upd_at]; split; (rename_i e; rw [e]); exact h21 j (by omega)) (hF.uA (by simp))
  have lo1 : ∀ (i : Nat) (τ : zT), i ≤ vN V → RwIs τ 8 (plc (fstP (vN V) m left p) i ρ) → (∀ j, j < vN V → τ.2.1 33 20 j = nI ((fstP (vN V) m left p) j)) → SIs τ (vN V) st → Fr9 [27, 28, 38] [8, 13, 14, 16, 20, 21] σ τ → GoM E (9 + 0) RX12 cX12_stands 5 none (fun r σ' => r = none ∧ SIs σ' (vN V) (sR (vN V) (lpl V ρ) 0 m left p st) ∧ (∀ i, i < m → σ'.2.1 33 20 i = σ.2.1 33 20 i) ∧ Fr9 [27, 28, 38] [8, 13, 14, 16, 20, 21] σ σ') τ 23 [(0, .ref (zA E 33 0)), (1, .int (nI m)), (2, .int (nI left)), (3, .int (nI i))] [] := by
    intro i
    induction hz : vN V - i using Nat.strongRecOn generalizing i with
    | ind z ih =>
      intro τ hi hR h20 hSt hF
      have hEt := hE.fr hF (by decide) (by decide)
      refine go_iload_n (i := 3) (pc := 23) dX12_stands_23 rfl rfl ?_
      refine go_aload_n (i := 0) (pc := 24) dX12_stands_24 rfl rfl ?_
      refine go_geti fl_X12_13 (pc := 25) dX12_stands_25 (by rfl) ?_
      rw [hEt.2.2.2]
      refine go_icmp_ge 52 (pc := 28) dX12_stands_28 (by decide) (fun h28 => ?_) (fun h28 => ?_)
      · first | rw [nI_leI (by omega) (by omega)] at h28 | rw [zi_leN (by omega)] at h28 | rw [zi_Nle (by omega)] at h28 | rw [zi_le] at h28
        have e : i = vN V := by omega
        subst e
        refine go_aload_n (i := 0) (pc := 52) dX12_stands_52 rfl rfl ?_
        refine go_iconst (nI 0) (pc := 53) dX12_stands_53 (by decide) ?_
        refine go_callV ml_X12_359 mt_X12_loadsNow (pc := 54) dX12_stands_54 (c_X12_loadsNow (V := V) (st := 0) (ρ := plc (fstP (vN V) m left p) (vN V) ρ) hEt hR (plc_ok hok (fun i hi => by have := hq4 i hi; omega)) (by decide) (by unfold plc; rw [if_neg (by omega)]; exact hq28)) (by rfl) rfl (by rfl) (by decide) (by decide) rfl rfl (Nat.le_of_ble_eq_true rfl) (fun r σ' hp2 => ?_)
        obtain ⟨rfl, hFd⟩ := hp2
        dsimp only [zRet]
        have hF4 := hF.tr (hFd.mono (by simp) (by simp))
        have hS4 := hSt.fr hFd (by decide) (by decide)
        have h204 : ∀ j, j < vN V → σ'.2.1 33 20 j = nI ((fstP (vN V) m left p) j) := fun j hj => by rw [hFd.2.2.1 20 (by decide)]; exact h20 j hj
        have hE4 := hE.fr hF4 (by decide) (by decide)
        change GoM _ _ _ _ _ _ _ _ _ _ (.int (nI (lpl V ρ (fstP (vN V) m left p))) :: _)
        refine go_istore_n (i := 3) (pc := 57) dX12_stands_57 rfl (by decide) ?_
        refine go_iload_n (i := 3) (pc := 58) dX12_stands_58 rfl rfl ?_
        refine go_aload_n (i := 0) (pc := 59) dX12_stands_59 rfl rfl ?_
        refine go_geti fl_X12_371 (pc := 60) dX12_stands_60 (by rfl) ?_
        rw [hS4.1]
        refine go_icmp_ge 103 (pc := 63) dX12_stands_63 (by decide) (fun h63 => ?_) (fun h63 => ?_)
        · first | rw [nI_leI (by omega) (by omega)] at h63 | rw [zi_leN (by omega)] at h63 | rw [zi_Nle (by omega)] at h63 | rw [zi_le] at h63
          refine go_return (pc := 103) dX12_stands_103 rfl ?_
          refine ⟨rfl, ?_, fun i hi => ?_, hF4⟩
          · show SIs σ' (vN V) (evp (vN V) (lpl V ρ) (fstP (vN V) m left p) st)
            unfold evp
            rw [if_neg (by omega)]
            exact hS4
          · rw [h204 i (by omega), (hp i hi).1]
            unfold fstP
            rw [if_pos hi]
        · first | rw [nI_leI (by omega) (by omega)] at h63 | rw [zi_leN (by omega)] at h63 | rw [zi_Nle (by omega)] at h63 | rw [zi_le] at h63
          refine go_aload_n (i := 0) (pc := 66) dX12_stands_66 rfl rfl ?_
          refine go_iload_n (i := 3) (pc := 67) dX12_stands_67 rfl rfl ?_
          refine go_puti fp_X12_371 (pc := 68) dX12_stands_68 (by rfl) rfl rfl ?_
          refine go_iconst (nI 0) (pc := 71) dX12_stands_71 (by decide) ?_
          refine go_istore (pc := 72) dX12_stands_72 (by decide) ?_
          exact lo2 (by omega) 0 _ (Nat.zero_le _) (uS_s _ _ _ _) h204 (fun j hj => absurd hj (Nat.not_lt_zero _)) (hF4.uS (by simp))
      · first | rw [nI_leI (by omega) (by omega)] at h28 | rw [zi_leN (by omega)] at h28 | rw [zi_Nle (by omega)] at h28 | rw [zi_le] at h28
        refine go_aload_n (i := 0) (pc := 31) dX12_stands_31 rfl rfl ?_
        refine go_getr2 fl_X12_39 (pc := 32) dX12_stands_32 (by rfl) (by rfl) (by rfl) ?_
        refine go_bipush (nI 12) (pc := 35) dX12_stands_35 (by decide) ?_
        refine go_iload_n (i := 3) (pc := 37) dX12_stands_37 rfl rfl ?_
        first | with_reducible refine go_iaddN (pc := 38) dX12_stands_38 ?_ | refine go_iadd (pc := 38) dX12_stands_38 ?_
        refine go_aload_n (i := 0) (pc := 39) dX12_stands_39 rfl rfl ?_
        refine go_getr2 fl_X12_75 (pc := 40) dX12_stands_40 (by rfl) (by rfl) (by rfl) ?_
        refine go_iload_n (i := 3) (pc := 43) dX12_stands_43 rfl rfl ?_
        refine go_iaload _ (pc := 44) dX12_stands_44 (by first | rfl | (apply zM_ar <;> assumption)) (by first | rfl | (apply zM_jn <;> assumption)) rfl (by first | assumption | omega) ?_
        rw [h20 i (by omega)]
        refine go_iastore (12 + i) (pc := 45) dX12_stands_45 rfl rfl rfl (by omega) ?_
        refine go_iincN (pc := 46) dX12_stands_46 rfl (by decide) ?_
        refine go_goto 23 (pc := 49) dX12_stands_49 (by decide) ?_
        exact ih (vN V - (i + 1)) (by omega) (i + 1) rfl _ (by omega) (by rw [← plc_up]; exact hR.up) (fun j hj => by rw [uA_2, if_neg (by decide)]; exact h20 j hj) (hSt.fr (Fr9.rf.uA (js := [8]) (fs := []) (by simp)) (by decide) (by decide)) (hF.uA (by simp))
  refine go_iload_n (i := 1) (pc := 0) dX12_stands_0 rfl rfl ?_
  refine go_aload_n (i := 0) (pc := 1) dX12_stands_1 rfl rfl ?_
  refine go_geti fl_X12_13 (pc := 2) dX12_stands_2 (by rfl) ?_
  rw [hE.2.2.2]
  refine go_iconst (nI 1) (pc := 5) dX12_stands_5 (by decide) ?_
  first | with_reducible refine go_isubN (pc := 6) dX12_stands_6 (by omega) ?_ | refine go_isub (pc := 6) dX12_stands_6 ?_
  refine go_icmp_ne 104 (pc := 7) dX12_stands_7 (by decide) (fun h7 => ?_) (fun h7 => ?_)
  · first | rw [nI_eq (by omega) (by omega)] at h7 | rw [zi_eqN (by omega)] at h7 | rw [zi_Neq (by omega)] at h7 | rw [zi_eq] at h7
    omega
  · first | rw [nI_eq (by omega) (by omega)] at h7 | rw [zi_eqN (by omega)] at h7 | rw [zi_Neq (by omega)] at h7 | rw [zi_eq] at h7
    refine go_aload_n (i := 0) (pc := 10) dX12_stands_10 rfl rfl ?_
    refine go_getr2 fl_X12_75 (pc := 11) dX12_stands_11 (by rfl) (by rfl) (by rfl) ?_
    refine go_iload_n (i := 1) (pc := 14) dX12_stands_14 rfl rfl ?_
    refine go_iload_n (i := 2) (pc := 15) dX12_stands_15 rfl rfl ?_
    refine go_iastore m (pc := 16) dX12_stands_16 rfl rfl rfl (by omega) ?_
    have hF1 : Fr9 [27, 28, 38] [8, 13, 14, 16, 20, 21] σ (uA σ 33 20 (upd (σ.2.1 33 20) m (nI left))) := Fr9.rf.uA (by simp)
    have h201 : ∀ j, j < vN V → (uA σ 33 20 (upd (σ.2.1 33 20) m (nI left))).2.1 33 20 j = nI ((fstP (vN V) m left p) j) := fun j hj => by
      rw [uA_s, upd_at]
      unfold fstP
      by_cases e : j = m
      · rw [if_pos e, if_neg (by omega), if_pos (by omega)]
      · rw [if_neg e, if_pos (by omega)]; exact (hp j (by omega)).1
    have hS1b : SIs (uA σ 33 20 (upd (σ.2.1 33 20) m (nI left))) (vN V) st := hS.fr (Fr9.rf.uA (js := [20]) (fs := []) (by simp)) (by decide) (by decide)
    generalize uA σ 33 20 (upd (σ.2.1 33 20) m (nI left)) = τ1 at hF1 h201 hS1b ⊢
    refine go_aload_n (i := 0) (pc := 17) dX12_stands_17 rfl rfl ?_
    refine go_callV ml_X12_356 mt_X12_copies (pc := 18) dX12_stands_18 (c_X12_copies (hw.fr hF1 (by decide))) (by rfl) rfl (by rfl) (by decide) (by decide) rfl rfl (Nat.le_of_ble_eq_true rfl) (fun r σ' hp2 => ?_)
    obtain ⟨rfl, hw8, hFc⟩ := hp2
    dsimp only [zRet]
    have hF2 := hF1.tr (hFc.mono (by simp) (by simp))
    have h202 : ∀ j, j < vN V → σ'.2.1 33 20 j = nI ((fstP (vN V) m left p) j) := fun j hj => by rw [hFc.2.2.1 20 (by decide)]; exact h201 j hj
    refine go_iconst (nI 0) (pc := 21) dX12_stands_21 (by decide) ?_
    refine go_istore_n (i := 3) (pc := 22) dX12_stands_22 rfl (by decide) ?_
    exact lo1 0 _ (Nat.zero_le _) (by rw [plc_0]; exact hw8) h202 (hS1b.fr hFc (by decide) (by decide)) hF2
theorem c_stands {E : zE} {V : zV} {ρ : Nat → Nat} (hok : RowOK (vN V) ρ) (hq28 : ρ 28 + 72 < 2 ^ 28) : ∀ t : Nat, ∀ (m left : Nat) (p : Nat → Nat) (st : Nat × (Nat → Nat)) (σ : zT), EnvR σ V → RwIs σ 7 ρ → m + t + 1 = vN V → left ≤ 4 → (∀ i, i < m → σ.2.1 33 20 i = nI (p i) ∧ p i ≤ 4) → SIs σ (vN V) st → CalM E (9 + t) yX12_stands cX12_stands 5 none [.ref (zA E 33 0), .int (nI m), .int (nI left)] σ (fun r σ' => r = none ∧ SIs σ' (vN V) (sR (vN V) (lpl V ρ) t m left p st) ∧ (∀ i, i < m → σ'.2.1 33 20 i = σ.2.1 33 20 i) ∧ Fr9 [27, 28, 38] [8, 13, 14, 16, 20, 21] σ σ') := by
  intro t
  induction t with
  | zero => exact c_stands0 hok hq28
  | succ t iht =>
    intro m left p st σ hE hw hmt hleft hp hS
    have hn : 1 ≤ vN V ∧ vN V ≤ 12 := ⟨hok.1, hok.2.1⟩
    refine cal_of_go (own := RX12) rfl (by decide +kernel) (Nat.le_of_ble_eq_true rfl) ?_
    have lo : ∀ (k : Nat) (τ : zT), k ≤ left + 1 → SIs τ (vN V) (itN (fun k st => sR (vN V) (lpl V ρ) t (m + 1) (left - k) (va_up p m k) st) k st) → (∀ i, i < m → τ.2.1 33 20 i = σ.2.1 33 20 i) → Fr9 [27, 28, 38] [8, 13, 14, 16, 20, 21] σ τ → GoM E (9 + (t + 1)) RX12 cX12_stands 5 none (fun r σ' => r = none ∧ SIs σ' (vN V) (sR (vN V) (lpl V ρ) (t + 1) m left p st) ∧ (∀ i, i < m → σ'.2.1 33 20 i = σ.2.1 33 20 i) ∧ Fr9 [27, 28, 38] [8, 13, 14, 16, 20, 21] σ σ') τ 106 [(0, .ref (zA E 33 0)), (1, .int (nI m)), (2, .int (nI left)), (3, .int (nI k))] [] := by
      intro k
      induction hz : left + 1 - k using Nat.strongRecOn generalizing k with
      | ind z ih =>
        intro τ hk hSt h20 hF
        refine go_iload_n (i := 3) (pc := 106) dX12_stands_106 rfl rfl ?_
        refine go_iload_n (i := 2) (pc := 107) dX12_stands_107 rfl rfl ?_
        refine go_icmp_gt 134 (pc := 108) dX12_stands_108 (by decide) (fun h108 => ?_) (fun h108 => ?_)
        · first | rw [nI_ltI (by omega) (by omega)] at h108 | rw [zi_ltN (by omega)] at h108 | rw [zi_Nlt (by omega)] at h108 | rw [zi_lt] at h108
          have e : k = left + 1 := by omega
          subst e
          refine go_return (pc := 134) dX12_stands_134 rfl ?_
          exact ⟨rfl, hSt, h20, hF⟩
        · first | rw [nI_ltI (by omega) (by omega)] at h108 | rw [zi_ltN (by omega)] at h108 | rw [zi_Nlt (by omega)] at h108 | rw [zi_lt] at h108
          refine go_aload_n (i := 0) (pc := 111) dX12_stands_111 rfl rfl ?_
          refine go_getr2 fl_X12_75 (pc := 112) dX12_stands_112 (by rfl) (by rfl) (by rfl) ?_
          refine go_iload_n (i := 1) (pc := 115) dX12_stands_115 rfl rfl ?_
          refine go_iload_n (i := 3) (pc := 116) dX12_stands_116 rfl rfl ?_
          refine go_iastore m (pc := 117) dX12_stands_117 rfl rfl rfl (by omega) ?_
          have hF1 : Fr9 [27, 28, 38] [8, 13, 14, 16, 20, 21] σ (uA τ 33 20 (upd (τ.2.1 33 20) m (nI k))) := hF.uA (by simp)
          have hp1 : ∀ i, i < m + 1 → (uA τ 33 20 (upd (τ.2.1 33 20) m (nI k))).2.1 33 20 i = nI (va_up p m k i) ∧ va_up p m k i ≤ 4 := fun i hi => by
            rw [uA_s, upd_at, va_at']
            by_cases e : i = m
            · rw [if_pos e, if_pos e]; exact ⟨rfl, by omega⟩
            · rw [if_neg e, if_neg e, h20 i (by omega)]; exact hp i (by omega)
          have h201 : ∀ i, i < m → (uA τ 33 20 (upd (τ.2.1 33 20) m (nI k))).2.1 33 20 i = σ.2.1 33 20 i := fun i hi => by rw [uA_s, upd_at, if_neg (by omega)]; exact h20 i hi
          have hS1b : SIs (uA τ 33 20 (upd (τ.2.1 33 20) m (nI k))) (vN V) (itN (fun k st => sR (vN V) (lpl V ρ) t (m + 1) (left - k) (va_up p m k) st) k st) := hSt.fr (Fr9.rf.uA (js := [20]) (fs := []) (by simp)) (by decide) (by decide)
          generalize uA τ 33 20 (upd (τ.2.1 33 20) m (nI k)) = τ1 at hF1 hp1 h201 hS1b ⊢
          have hE1 := hE.fr hF1 (by decide) (by decide)
          refine go_aload_n (i := 0) (pc := 118) dX12_stands_118 rfl rfl ?_
          refine go_iload_n (i := 1) (pc := 119) dX12_stands_119 rfl rfl ?_
          refine go_iconst (nI 1) (pc := 120) dX12_stands_120 (by decide) ?_
          first | with_reducible refine go_iaddN (pc := 121) dX12_stands_121 ?_ | refine go_iadd (pc := 121) dX12_stands_121 ?_
          refine go_iload_n (i := 2) (pc := 122) dX12_stands_122 rfl rfl ?_
          refine go_iload_n (i := 3) (pc := 123) dX12_stands_123 rfl rfl ?_
          refine go_isubN (pc := 124) dX12_stands_124 (by omega) ?_
          refine go_callV ml_X12_374 mt_X12_stands (pc := 125) dX12_stands_125 (iht (m + 1) (left - k) (va_up p m k) (itN (fun k st => sR (vN V) (lpl V ρ) t (m + 1) (left - k) (va_up p m k) st) k st) _ hE1 (hw.fr hF1 (by decide)) (by omega) (by omega) hp1 hS1b) (by rfl) rfl (by rfl) (by omega) (by decide) rfl rfl (Nat.le_of_ble_eq_true rfl) (fun r σ' hp2 => ?_)
          obtain ⟨rfl, hS2, h202, hFd⟩ := hp2
          dsimp only [zRet]
          have hF2 := hF1.tr hFd
          refine go_iincN (pc := 128) dX12_stands_128 rfl (by decide) ?_
          refine go_goto 106 (pc := 131) dX12_stands_131 (by decide) ?_
          exact ih (left + 1 - (k + 1)) (by omega) (k + 1) rfl _ (by omega) hS2 (fun i hi => by rw [h202 i (by omega)]; exact h201 i hi) hF2
    refine go_iload_n (i := 1) (pc := 0) dX12_stands_0 rfl rfl ?_
    refine go_aload_n (i := 0) (pc := 1) dX12_stands_1 rfl rfl ?_
    refine go_geti fl_X12_13 (pc := 2) dX12_stands_2 (by rfl) ?_
    rw [hE.2.2.2]
    refine go_iconst (nI 1) (pc := 5) dX12_stands_5 (by decide) ?_
    first | with_reducible refine go_isubN (pc := 6) dX12_stands_6 (by omega) ?_ | refine go_isub (pc := 6) dX12_stands_6 ?_
    refine go_icmp_ne 104 (pc := 7) dX12_stands_7 (by decide) (fun h7 => ?_) (fun h7 => ?_)
    · first | rw [nI_eq (by omega) (by omega)] at h7 | rw [zi_eqN (by omega)] at h7 | rw [zi_Neq (by omega)] at h7 | rw [zi_eq] at h7
      refine go_iconst (nI 0) (pc := 104) dX12_stands_104 (by decide) ?_
      refine go_istore_n (i := 3) (pc := 105) dX12_stands_105 rfl (by decide) ?_
      exact lo 0 σ (Nat.zero_le _) hS (fun _ _ => rfl) Fr9.rf
    · first | rw [nI_eq (by omega) (by omega)] at h7 | rw [zi_eqN (by omega)] at h7 | rw [zi_Neq (by omega)] at h7 | rw [zi_eq] at h7
      omega
theorem c_tellN {E : zE} {σ : zT} {v : Int64} {t : Nat} {g : Nat → Int64} (h : TellIs σ t g) (ht : t < 12) (hv : v = g t) : CalM E 0 yX12_enters cX12_enters 3 none [.ref (zA E 33 0), .long v] σ (fun r σ' => r = none ∧ TellIs σ' (t + 1) g ∧ Fr9 [1] [1] σ σ') :=
  cal_weak (c_X12_enters h.2.1 (by omega)) (fun r σ' q => by
    obtain ⟨q1, rfl⟩ := q
    refine ⟨q1, ⟨by omega, uS_s _ _ _ _, fun i hi => ?_⟩, (Fr9.rf.uL (by simp)).uS (by simp)⟩
    show (uL σ 33 _).2.2.1 33 i = _
    rw [uL_3, if_pos rfl, updL_at]
    by_cases e : i = t
    · rw [if_pos e, e]; exact hv
    · rw [if_neg e]; exact h.2.2 i (by omega))

theorem evp_9 {n : Nat} {L : (Nat → Nat) → Nat} {p : Nat → Nat} {st : Nat × (Nat → Nat)} (hp : ∀ i, i < n → p i ≤ 4) (h : ∀ i, st.2 i ≤ 4) : ∀ i, (evp n L p st).2 i ≤ 4 := by
  intro i
  unfold evp
  split
  · show cut n p i ≤ 4
    unfold cut
    split
    · exact hp i (by assumption)
    · omega
  · exact h i
theorem sR_9 {n : Nat} {L : (Nat → Nat) → Nat} : ∀ (t m left : Nat) (p : Nat → Nat) (st : Nat × (Nat → Nat)), m + t + 1 = n → left ≤ 4 → (∀ i, i < m → p i ≤ 4) → (∀ i, st.2 i ≤ 4) → ∀ i, (sR n L t m left p st).2 i ≤ 4
  | 0, m, left, p, st, h, hl, hp, hs => evp_9 (fun i hi => by unfold fstP; split; exact hp i (by assumption); split <;> omega) hs
  | t + 1, m, left, p, st, h, hl, hp, hs => by
    have key : ∀ k, k ≤ left + 1 → ∀ i, (itN (fun k st => sR n L t (m + 1) (left - k) (va_up p m k) st) k st).2 i ≤ 4 := by
      intro k
      induction k with
      | zero => exact fun _ => hs
      | succ k ih => intro hk; exact sR_9 t (m + 1) (left - k) (va_up p m k) _ (by omega) (by omega) (fun i hi => by rw [va_at']; split; omega; exact hp i (by omega)) (ih (by omega))
    exact key (left + 1) (Nat.le_refl _)
theorem bS_9 {V : zV} {ρ : Nat → Nat} {k : Nat} (hV : VOK V) (hok : RowOK (vN V) ρ) (hk : k ≤ 4) : ∀ i, (bS V ρ k).2 i < 2 ^ 31 := fun i => by
  have := sR_9 (L := lpl V ρ) (vN V - 1) 0 k (fun _ => 0) (1000000, fun _ => 0) (show 0 + (vN V - 1) + 1 = vN V by have := hok.1; omega) hk (fun i hi => absurd hi (Nat.not_lt_zero _)) (fun _ => Nat.zero_le _) i
  have e : (bS V ρ k).2 i ≤ 4 := this
  omega

theorem c_X12_beats {E : zE} {σ : zT} {tx : Nat × (Nat → Nat)} {bd : Nat × (Nat → Nat) × (Nat → Nat)} {sk : Nat × (Nat → Nat)} {tw : Nat × (Nat → Nat) × (Nat → Nat)} {xs : List Nat} {ld : Nat × (Nat → Nat)} {pa sh : Nat × (Nat → Nat → Nat)} {ru : Nat × (Nat → Nat) × (Nat → Nat)} {to : Nat × (Nat → Int64)} {k : Int32} (hC : RefIs σ tx bd sk tw xs ld pa sh ru to) (hro : Roomy ld.2) : CalM E 22 yX12_beats cX12_beats 3 (some .int) [.ref (zA E 33 0), .int k] σ (fun r σ' => r = some (.int (if in0 k 4 then nI (bS (vOf bd sk xs ld.1) ld.2 k.toInt.toNat).1 else -1)) ∧ RefIs σ' tx bd sk tw xs ld pa sh ru (if in0 k 4 then (ld.1, fun i => lN ((bS (vOf bd sk xs ld.1) ld.2 k.toInt.toNat).2 i)) else to) ∧ FrG [33] σ σ') := by
  refine cal_of_go (own := RX12) rfl (by decide +kernel) (Nat.le_of_ble_eq_true rfl) ?_
  have hN := hC.2.2.2.2.2.1
  have hn : 1 ≤ ld.1 ∧ ld.1 ≤ 12 := ⟨hN.2.1.1, hN.2.1.2.1⟩
  have hV := hC.env.vok hN.2.1
  have hok := hN.2.1
  have main : ∀ k1 : Nat, k1 ≤ 4 → ∀ τ, SIs τ ld.1 (1000000, fun _ => 0) → Fr9 [0, 27, 28, 38] [8, 13, 14, 16, 20, 21] σ τ → GoM E 22 RX12 cX12_beats 3 (some .int) (fun r σ' => r = some (.int (nI (bS (vOf bd sk xs ld.1) ld.2 k1).1)) ∧ RefIs σ' tx bd sk tw xs ld pa sh ru (ld.1, fun i => lN ((bS (vOf bd sk xs ld.1) ld.2 k1).2 i)) ∧ FrG [33] σ σ') τ 26 [(0, .ref (zA E 33 0)), (1, .int (nI k1))] [] := by
    intro k1 hk1
    have h72 := bS_le hV hok hk1
    have hb9 := bS_9 hV hok hk1
    have loop : ∀ (i : Nat) (τ : zT), i ≤ ld.1 → SIs τ ld.1 (bS (vOf bd sk xs ld.1) ld.2 k1) → TellIs τ i (fun i => lN ((bS (vOf bd sk xs ld.1) ld.2 k1).2 i)) → Fr9 [0, 1, 27, 28, 38] [1, 8, 13, 14, 16, 20, 21] σ τ → GoM E 22 RX12 cX12_beats 3 (some .int) (fun r σ' => r = some (.int (nI (bS (vOf bd sk xs ld.1) ld.2 k1).1)) ∧ RefIs σ' tx bd sk tw xs ld pa sh ru (ld.1, fun i => lN ((bS (vOf bd sk xs ld.1) ld.2 k1).2 i)) ∧ FrG [33] σ σ') τ 39 [(0, .ref (zA E 33 0)), (1, .int (nI k1)), (2, .int (nI i))] [] := by
      intro i
      induction hz : ld.1 - i using Nat.strongRecOn generalizing i with
      | ind z ih =>
        intro τ hi hS hT hF
        have h3 : τ.1 33 3 = nI ld.1 := by rw [hF.2.1 _ (by decide)]; exact hN.1
        refine go_iload_n (i := 2) (pc := 39) dX12_beats_39 rfl rfl ?_
        refine go_aload_n (i := 0) (pc := 40) dX12_beats_40 rfl rfl ?_
        refine go_geti fl_X12_13 (pc := 41) dX12_beats_41 (by rfl) ?_
        rw [h3]
        refine go_icmp_ge 64 (pc := 44) dX12_beats_44 (by decide) (fun h44 => ?_) (fun h44 => ?_)
        · first | rw [nI_leI (by omega) (by omega)] at h44 | rw [zi_leN (by omega)] at h44 | rw [zi_Nle (by omega)] at h44 | rw [zi_le] at h44
          have e : i = ld.1 := by omega
          subst e
          refine go_aload_n (i := 0) (pc := 64) dX12_beats_64 rfl rfl ?_
          refine go_geti fl_X12_371 (pc := 65) dX12_beats_65 (by rfl) ?_
          rw [hS.1]
          refine go_ireturn (pc := 68) dX12_beats_68 rfl ?_
          exact ⟨rfl, hC.tell (to' := (ld.1, _)) hF (by decide) (by decide) hT, hF.1⟩
        · first | rw [nI_leI (by omega) (by omega)] at h44 | rw [zi_leN (by omega)] at h44 | rw [zi_Nle (by omega)] at h44 | rw [zi_le] at h44
          refine go_aload_n (i := 0) (pc := 47) dX12_beats_47 rfl rfl ?_
          refine go_aload_n (i := 0) (pc := 48) dX12_beats_48 rfl rfl ?_
          refine go_getr2 fl_X12_78 (pc := 49) dX12_beats_49 (by rfl) (by rfl) (by rfl) ?_
          refine go_iload_n (i := 2) (pc := 52) dX12_beats_52 rfl rfl ?_
          refine go_iaload _ (pc := 53) dX12_beats_53 (by first | rfl | (apply zM_ar <;> assumption)) (by first | rfl | (apply zM_jn <;> assumption)) rfl (by first | assumption | omega) ?_
          rw [hS.2.2 (by omega) i (by omega)]
          refine go_i2l (pc := 54) dX12_beats_54 ?_
          refine go_callV ml_X12_333 mt_X12_enters (pc := 55) dX12_beats_55 (c_tellN (v := (nI ((bS (vOf bd sk xs ld.1) ld.2 k1).2 i)).toInt64) hT (by omega) (nI_l (hb9 i))) (by rfl) rfl (by rfl) (by decide) (by decide) rfl rfl (Nat.le_of_ble_eq_true rfl) (fun r σ' hp => ?_)
          obtain ⟨rfl, hT2, hF2⟩ := hp
          dsimp only [zRet]
          refine go_iincN (pc := 58) dX12_beats_58 rfl (by decide) ?_
          refine go_goto 39 (pc := 61) dX12_beats_61 (by decide) ?_
          exact ih (ld.1 - (i + 1)) (by omega) (i + 1) rfl _ (by omega) (hS.fr hF2 (by decide) (by decide)) hT2 (hF.tr (hF2.mono (by simp) (by simp)))
    intro τ hS hF
    refine go_aload_n (i := 0) (pc := 26) dX12_beats_26 rfl rfl ?_
    refine go_iconst (nI 0) (pc := 27) dX12_beats_27 (by decide) ?_
    refine go_iload_n (i := 1) (pc := 28) dX12_beats_28 rfl rfl ?_
    refine go_callV ml_X12_374 mt_X12_stands (pc := 29) dX12_beats_29 (c_stands (V := (vOf bd sk xs ld.1)) (ρ := ld.2) hok (by omega) (ld.1 - 1) 0 k1 (fun _ => 0) (1000000, fun _ => 0) τ (hC.fr hF (by decide) (by decide)).env (hN.2.2.fr hF (by decide)) (by show 0 + (ld.1 - 1) + 1 = ld.1; omega) hk1 (fun i hi => absurd hi (Nat.not_lt_zero _)) hS) (by rfl) rfl (by rfl) (by omega) (by decide) rfl rfl (Nat.le_of_ble_eq_true rfl) (fun r σ' hp => ?_)
    obtain ⟨rfl, hS2, -, hFd⟩ := hp
    dsimp only [zRet]
    have hF2 := hF.tr (hFd.mono (by simp) (by simp))
    refine go_aload_n (i := 0) (pc := 32) dX12_beats_32 rfl rfl ?_
    refine go_iconst (nI 0) (pc := 33) dX12_beats_33 (by decide) ?_
    refine go_puti fp_X12_104 (pc := 34) dX12_beats_34 (by rfl) rfl rfl ?_
    refine go_iconst (nI 0) (pc := 37) dX12_beats_37 (by decide) ?_
    refine go_istore_n (i := 2) (pc := 38) dX12_beats_38 rfl (by decide) ?_
    exact loop 0 _ (Nat.zero_le _) (hS2.fr (Fr9.rf.uS (fs := [1]) (js := []) (by simp)) (by decide) (by decide)) ⟨Nat.zero_le _, uS_s _ _ _ _, fun i hi => absurd hi (Nat.not_lt_zero _)⟩ ((hF2.mono (by simp) (by simp)).uS (by simp))
  refine go_aload_n (i := 0) (pc := 0) dX12_beats_0 rfl rfl ?_
  refine go_iconst (nI 0) (pc := 1) dX12_beats_1 (by decide) ?_
  refine go_puti fp_X12_97 (pc := 2) dX12_beats_2 (by rfl) rfl rfl ?_
  have hF : Fr9 [0, 27, 28, 38] [8, 13, 14, 16, 20, 21] σ (uS σ 33 0 (nI 0)) := Fr9.rf.uS (by simp)
  refine go_iload_n (i := 1) (pc := 5) dX12_beats_5 rfl rfl ?_
  refine go_i2l (pc := 6) dX12_beats_6 ?_
  refine go_lconst (lN 0) (pc := 7) dX12_beats_7 (by decide) ?_
  refine go_ldc2 (4) kc_X12_378 (pc := 8) dX12_beats_8 ?_
  refine go_callS ml_X12_107 mt_X12_in (pc := 11) dX12_beats_11 (c_in (lo := 0) (hi := 4) (by decide) (by decide)) (by decide) (by decide) rfl rfl (Nat.le_of_ble_eq_true rfl) (fun r σ' hp => ?_)
  obtain ⟨rfl, hσ⟩ := hp
  rw [hσ]
  clear hσ σ'
  dsimp only [zRet]
  refine go_if_ne 19 (pc := 14) dX12_beats_14 (by decide) (fun h14 => ?_) (fun h14 => ?_)
  · first | rw [zb_0d] at h14 | rw [zn_eq0 (by omega)] at h14 | rw [zi_eq0] at h14
    rw [if_pos (by omega), if_pos (by omega)]
    have hk4 : k.toInt ≤ 4 := by omega
    have ek1 := nI_of' (x := k) (by omega)
    generalize hqk1 : k.toInt.toNat = k1 at ek1 ⊢
    subst ek1
    refine go_aload_n (i := 0) (pc := 19) dX12_beats_19 rfl rfl ?_
    refine go_ldcw (nI 1000000) kc_X12_380 (pc := 20) dX12_beats_20 ?_
    refine go_puti fp_X12_371 (pc := 23) dX12_beats_23 (by rfl) rfl rfl ?_
    exact main k1 (by omega) _ ⟨uS_s _ _ _ _, Nat.le_refl _, fun h => absurd h (Nat.lt_irrefl _)⟩ (hF.uS (by simp))
  · first | rw [zb_0d] at h14 | rw [zn_eq0 (by omega)] at h14 | rw [zi_eq0] at h14
    refine go_iconst (-1) (pc := 17) dX12_beats_17 (by decide) ?_
    refine go_ireturn (pc := 18) dX12_beats_18 rfl ?_
    rw [if_neg (by omega), if_neg (by omega)]
    exact ⟨rfl, hC.fr hF (by decide) (by decide), hF.1⟩

