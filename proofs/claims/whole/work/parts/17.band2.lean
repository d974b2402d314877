/-- loads of those of a set; those of so much or more -/
def loadsB (ld : Nat → Nat) (b n : Nat) : Nat := sumN n (fun c => if b.testBit c then ld c else 0)
def heavyB (ld : Nat → Nat) (v n : Nat) : Nat := sumN n (fun c => if v ≤ ld c then 2 ^ c else 0)
theorem nI_if {p : Prop} [Decidable p] : nI (if p then 1 else 0) = 0 ↔ ¬ p := by
  split
  · rename_i h
    exact ⟨fun q => absurd q (by decide), fun q => absurd h q⟩
  · rename_i h
    exact ⟨fun _ => h, fun _ => rfl⟩

theorem c_X0_loadsOf {E : zE} {σ : zT} {nc : Nat} {kd ld : Nat → Nat} {b : Nat} (hB : BandIs σ nc kd ld) (hb : b < 2 ^ 12) : CalM E 2 yX0_loadsOf cX0_loadsOf 4 (some .int) [.ref (zA E 2 0), .int (nI b)] σ (fun r σ' => r = some (.int (nI (loadsB ld b nc))) ∧ σ' = σ) := by
  refine cal_of_go (own := RX0) rfl (by decide +kernel) (Nat.le_of_ble_eq_true rfl) ?_
  have hn := hB.1
  have loop : ∀ i : Nat, i ≤ nc → GoM E 2 RX0 cX0_loadsOf 4 (some .int) (fun r σ' => r = some (.int (nI (loadsB ld b nc))) ∧ σ' = σ) σ 4 [(0, .ref (zA E 2 0)), (1, .int (nI b)), (2, .int (nI (loadsB ld b i))), (3, .int (nI i))] [] := by
    intro i
    induction hj : nc - i using Nat.strongRecOn generalizing i with
    | ind j ih =>
      intro hi
      refine go_iload_n (i := 3) (pc := 4) dX0_loadsOf_4 rfl rfl ?_
      refine go_aload_n (i := 0) (pc := 5) dX0_loadsOf_5 rfl rfl ?_
      refine go_geti fl_X0_34 (pc := 6) dX0_loadsOf_6 (by first | rfl | (apply zL_fi <;> first | assumption | decide) | (apply zR_fi <;> first | assumption | decide)) ?_
      rw [hB.2.1]
      refine go_icmp_ge 34 (pc := 9) dX0_loadsOf_9 (by decide) (fun h9 => ?_) (fun h9 => ?_)
      · first | rw [nI_leI (by omega) (by omega)] at h9 | rw [zi_leN (by omega)] at h9 | rw [zi_Nle (by omega)] at h9 | rw [zi_le] at h9
        have e : i = nc := by omega
        subst e
        refine go_iload_n (i := 2) (pc := 34) dX0_loadsOf_34 rfl rfl ?_
        refine go_ireturn (pc := 35) dX0_loadsOf_35 rfl ?_
        exact ⟨rfl, rfl⟩
      · first | rw [nI_leI (by omega) (by omega)] at h9 | rw [zi_leN (by omega)] at h9 | rw [zi_Nle (by omega)] at h9 | rw [zi_le] at h9
        refine go_iload_n (i := 1) (pc := 12) dX0_loadsOf_12 rfl rfl ?_
        refine go_iload_n (i := 3) (pc := 13) dX0_loadsOf_13 rfl rfl ?_
        refine go_ishr (pc := 14) dX0_loadsOf_14 ?_
        refine go_iconst (nI 1) (pc := 15) dX0_loadsOf_15 (by decide) ?_
        refine go_iand (pc := 16) dX0_loadsOf_16 ?_
        rw [zbit hb (by omega)]
        refine go_if_eq 28 (pc := 17) dX0_loadsOf_17 (by decide) (fun h17 => ?_) (fun h17 => ?_)
        · rw [nI_if] at h17
          have e : loadsB ld b (i + 1) = loadsB ld b i := by rw [loadsB, sumN, if_neg (by simpa using h17)]; rfl
          refine go_iincN (pc := 28) dX0_loadsOf_28 rfl (by decide) ?_
          refine go_goto 4 (pc := 31) dX0_loadsOf_31 (by decide) ?_
          rw [← e]
          exact ih (nc - (i + 1)) (by omega) (i + 1) rfl (by omega)
        · rw [nI_if] at h17
          have e : loadsB ld b (i + 1) = loadsB ld b i + ld i := by rw [loadsB, sumN, if_pos (by simpa using h17)]; rfl
          refine go_iload_n (i := 2) (pc := 20) dX0_loadsOf_20 rfl rfl ?_
          refine go_aload_n (i := 0) (pc := 21) dX0_loadsOf_21 rfl rfl ?_
          refine go_iload_n (i := 3) (pc := 22) dX0_loadsOf_22 rfl rfl ?_
          refine go_callV ml_X0_45 mt_X0_loadOf (pc := 23) dX0_loadsOf_23 (c_X0_loadOf hB (by omega)) (by first | rfl | (apply zL_cq <;> assumption) | (apply zR_cq <;> assumption)) rfl (by first | rfl | (apply zL_in <;> first | assumption | decide) | (apply zR_in <;> first | assumption | decide)) (by decide) (by decide) rfl rfl (Nat.le_of_ble_eq_true rfl) (fun r σ' hp => ?_)
          obtain ⟨rfl, hσ⟩ := hp
          rw [hσ]
          clear hσ σ'
          dsimp only [zRet]
          first | with_reducible refine go_iaddN (pc := 26) dX0_loadsOf_26 ?_ | refine go_iadd (pc := 26) dX0_loadsOf_26 ?_
          refine go_istore_n (i := 2) (pc := 27) dX0_loadsOf_27 rfl (by decide) ?_
          refine go_iincN (pc := 28) dX0_loadsOf_28 rfl (by decide) ?_
          refine go_goto 4 (pc := 31) dX0_loadsOf_31 (by decide) ?_
          rw [← e]
          exact ih (nc - (i + 1)) (by omega) (i + 1) rfl (by omega)
  refine go_iconst (nI 0) (pc := 0) dX0_loadsOf_0 (by decide) ?_
  refine go_istore_n (i := 2) (pc := 1) dX0_loadsOf_1 rfl (by decide) ?_
  refine go_iconst (nI 0) (pc := 2) dX0_loadsOf_2 (by decide) ?_
  refine go_istore_n (i := 3) (pc := 3) dX0_loadsOf_3 rfl (by decide) ?_
  exact loop 0 (by omega)

theorem c_X0_heavy {E : zE} {σ : zT} {nc : Nat} {kd ld : Nat → Nat} {v : Nat} (hB : BandIs σ nc kd ld) (hv : v < 2 ^ 31) : CalM E 2 yX0_heavy cX0_heavy 4 (some .int) [.ref (zA E 2 0), .int (nI v)] σ (fun r σ' => r = some (.int (nI (heavyB ld v nc))) ∧ σ' = σ) := by
  refine cal_of_go (own := RX0) rfl (by decide +kernel) (Nat.le_of_ble_eq_true rfl) ?_
  have hn := hB.1
  have loop : ∀ i : Nat, i ≤ nc → GoM E 2 RX0 cX0_heavy 4 (some .int) (fun r σ' => r = some (.int (nI (heavyB ld v nc))) ∧ σ' = σ) σ 4 [(0, .ref (zA E 2 0)), (1, .int (nI v)), (2, .int (nI (heavyB ld v i))), (3, .int (nI i))] [] := by
    intro i
    induction hj : nc - i using Nat.strongRecOn generalizing i with
    | ind j ih =>
      intro hi
      refine go_iload_n (i := 3) (pc := 4) dX0_heavy_4 rfl rfl ?_
      refine go_aload_n (i := 0) (pc := 5) dX0_heavy_5 rfl rfl ?_
      refine go_geti fl_X0_34 (pc := 6) dX0_heavy_6 (by first | rfl | (apply zL_fi <;> first | assumption | decide) | (apply zR_fi <;> first | assumption | decide)) ?_
      rw [hB.2.1]
      refine go_icmp_ge 33 (pc := 9) dX0_heavy_9 (by decide) (fun h9 => ?_) (fun h9 => ?_)
      · first | rw [nI_leI (by omega) (by omega)] at h9 | rw [zi_leN (by omega)] at h9 | rw [zi_Nle (by omega)] at h9 | rw [zi_le] at h9
        have e : i = nc := by omega
        subst e
        refine go_iload_n (i := 2) (pc := 33) dX0_heavy_33 rfl rfl ?_
        refine go_ireturn (pc := 34) dX0_heavy_34 rfl ?_
        exact ⟨rfl, rfl⟩
      · first | rw [nI_leI (by omega) (by omega)] at h9 | rw [zi_leN (by omega)] at h9 | rw [zi_Nle (by omega)] at h9 | rw [zi_le] at h9
        refine go_aload_n (i := 0) (pc := 12) dX0_heavy_12 rfl rfl ?_
        refine go_iload_n (i := 3) (pc := 13) dX0_heavy_13 rfl rfl ?_
        refine go_callV ml_X0_45 mt_X0_loadOf (pc := 14) dX0_heavy_14 (c_X0_loadOf hB (by omega)) (by first | rfl | (apply zL_cq <;> assumption) | (apply zR_cq <;> assumption)) rfl (by first | rfl | (apply zL_in <;> first | assumption | decide) | (apply zR_in <;> first | assumption | decide)) (by decide) (by decide) rfl rfl (Nat.le_of_ble_eq_true rfl) (fun r σ' hp => ?_)
        obtain ⟨rfl, hσ⟩ := hp
        rw [hσ]
        clear hσ σ'
        dsimp only [zRet]
        refine go_iload_n (i := 1) (pc := 17) dX0_heavy_17 rfl rfl ?_
        have h4 := (hB.2.2 i (by omega)).2.2.2.2
        refine go_icmp_lt 27 (pc := 18) dX0_heavy_18 (by decide) (fun h18 => ?_) (fun h18 => ?_)
        · first | rw [nI_ltI (by omega) (by omega)] at h18 | rw [zi_ltN (by omega)] at h18 | rw [zi_Nlt (by omega)] at h18 | rw [zi_lt] at h18
          have e : heavyB ld v (i + 1) = heavyB ld v i := by rw [heavyB, sumN, if_neg (by omega)]; rfl
          refine go_iincN (pc := 27) dX0_heavy_27 rfl (by decide) ?_
          refine go_goto 4 (pc := 30) dX0_heavy_30 (by decide) ?_
          rw [← e]
          exact ih (nc - (i + 1)) (by omega) (i + 1) rfl (by omega)
        · first | rw [nI_ltI (by omega) (by omega)] at h18 | rw [zi_ltN (by omega)] at h18 | rw [zi_Nlt (by omega)] at h18 | rw [zi_lt] at h18
          have e : heavyB ld v (i + 1) = heavyB ld v i + 2 ^ i := by rw [heavyB, sumN, if_pos (by omega)]; rfl
          refine go_iload_n (i := 2) (pc := 21) dX0_heavy_21 rfl rfl ?_
          refine go_iconst (nI 1) (pc := 22) dX0_heavy_22 (by decide) ?_
          refine go_iload_n (i := 3) (pc := 23) dX0_heavy_23 rfl rfl ?_
          refine go_ishl (pc := 24) dX0_heavy_24 ?_
          refine go_ior (pc := 25) dX0_heavy_25 ?_
          rw [zor2 (a := heavyB ld v i) (bits_lt i) (by omega)]
          refine go_istore_n (i := 2) (pc := 26) dX0_heavy_26 rfl (by decide) ?_
          refine go_iincN (pc := 27) dX0_heavy_27 rfl (by decide) ?_
          refine go_goto 4 (pc := 30) dX0_heavy_30 (by decide) ?_
          rw [← e]
          exact ih (nc - (i + 1)) (by omega) (i + 1) rfl (by omega)
  refine go_iconst (nI 0) (pc := 0) dX0_heavy_0 (by decide) ?_
  refine go_istore_n (i := 2) (pc := 1) dX0_heavy_1 rfl (by decide) ?_
  refine go_iconst (nI 0) (pc := 2) dX0_heavy_2 (by decide) ?_
  refine go_istore_n (i := 3) (pc := 3) dX0_heavy_3 rfl (by decide) ?_
  exact loop 0 (by omega)

/-- the past: the i-th of sz rows, the oldest first, lies in the ring of 15 that ends ahead of nx -/
def PastIs (σ : zT) (nx sz n : Nat) (Hs : Nat → Nat → Nat) : Prop := nx < 15 ∧ sz ≤ 15 ∧ σ.1 9 1 = nI nx ∧ σ.1 9 2 = nI sz ∧ ∀ i, i < sz → LandIs σ (10 + (nx + 15 - sz + i) % 15) n (Hs i)
def pastS : List Nat := [9, 10, 11, 12, 13, 14, 15, 16, 17, 18, 19, 20, 21, 22, 23, 24]
theorem zL_past {i : Nat} (h : i < 15) : zL (10 + i) = true := by
  have : ∀ i : Nat, i < 15 → zL (10 + i) = true := by decide
  exact this i h
theorem pastS_mem {i : Nat} (h : i < 15) : 10 + i ∈ pastS := by
  have : ∀ i : Nat, i < 15 → 10 + i ∈ pastS := by decide
  exact this i h
theorem PastIs.fr {σ σ' : zT} {nx sz n : Nat} {Hs : Nat → Nat → Nat} {S : List Nat} (h : PastIs σ nx sz n Hs) (hf : FrG S σ σ') (hS : ∀ a ∈ pastS, a ∉ S) : PastIs σ' nx sz n Hs := by
  obtain ⟨e1, -, -⟩ := hf.1 9 (hS 9 (by decide))
  exact ⟨h.1, h.2.1, by rw [e1]; exact h.2.2.1, by rw [e1]; exact h.2.2.2.1, fun i hi => (h.2.2.2.2 i hi).fr hf (hS _ (pastS_mem (Nat.mod_lt _ (by decide))))⟩
/-- one more, the oldest goes if there are 15 -/
def pushH (Hs : Nat → Nat → Nat) (sz : Nat) (ρ : Nat → Nat) : Nat → Nat → Nat := if sz = 15 then (fun i => if i = 14 then ρ else Hs (i + 1)) else (fun i => if i = sz then ρ else Hs i)

theorem c_X3_size {E : zE} {σ : zT} {nx sz n : Nat} {Hs : Nat → Nat → Nat} (hP : PastIs σ nx sz n Hs) : CalM E 0 yX3_size cX3_size 1 (some .int) [.ref (zA E 9 0)] σ (fun r σ' => r = some (.int (nI sz)) ∧ σ' = σ) := by
  refine cal_of_go (own := RX3) rfl (by decide +kernel) (Nat.le_of_ble_eq_true rfl) ?_
  refine go_aload_n (i := 0) (pc := 0) dX3_size_0 rfl rfl ?_
  refine go_geti fl_X3_16 (pc := 1) dX3_size_1 (by first | rfl | (apply zL_fi <;> first | assumption | decide) | (apply zR_fi <;> first | assumption | decide)) ?_
  rw [hP.2.2.2.1]
  refine go_ireturn (pc := 4) dX3_size_4 rfl ?_
  exact ⟨rfl, rfl⟩

theorem c_X3_clear {E : zE} {σ : zT} {nx sz n : Nat} {Hs : Nat → Nat → Nat} (hP : PastIs σ nx sz n Hs) : CalM E 0 yX3_clear cX3_clear 1 none [.ref (zA E 9 0)] σ (fun r σ' => r = none ∧ (∀ Hs', PastIs σ' nx 0 n Hs') ∧ FrG [9] σ σ') := by
  refine cal_of_go (own := RX3) rfl (by decide +kernel) (Nat.le_of_ble_eq_true rfl) ?_
  refine go_aload_n (i := 0) (pc := 0) dX3_clear_0 rfl rfl ?_
  refine go_iconst (nI 0) (pc := 1) dX3_clear_1 (by decide) ?_
  refine go_puti fp_X3_16 (pc := 2) dX3_clear_2 (by first | rfl | (apply zL_fi <;> first | assumption | decide) | (apply zR_fi <;> first | assumption | decide)) rfl rfl ?_
  refine go_return (pc := 5) dX3_clear_5 rfl ?_
  exact ⟨rfl, fun Hs2 => ⟨hP.1, by omega, by simp [uS_1, hP.2.2.1], by simp [uS_1], fun i hi => absurd hi (by omega)⟩, FrG.rf.uS (by simp)⟩

theorem c_X3_push {E : zE} {σ : zT} {nx sz n : Nat} {Hs : Nat → Nat → Nat} {k : Nat} {ρ : Nat → Nat} (hP : PastIs σ nx sz n Hs) (hk : zL k = true) (hL : LandIs σ k n ρ) : CalM E 2 yX3_push cX3_push 2 none [.ref (zA E 9 0), .ref (zA E k 0)] σ (fun r σ' => r = none ∧ PastIs σ' ((nx + 1) % 15) (min (sz + 1) 15) n (pushH Hs sz ρ) ∧ FrG pastS σ σ') := by
  refine cal_of_go (own := RX3) rfl (by decide +kernel) (Nat.le_of_ble_eq_true rfl) ?_
  have h1 := hP.1
  have h2 := hP.2.1
  have hz := zL_past h1
  refine go_aload_n (i := 0) (pc := 0) dX3_push_0 rfl rfl ?_
  refine go_geti fl_X3_20 (pc := 1) dX3_push_1 (by first | rfl | (apply zL_fi <;> first | assumption | decide) | (apply zR_fi <;> first | assumption | decide)) ?_
  rw [hP.2.2.1]
  refine go_if_lt 28 (pc := 4) dX3_push_4 (by decide) (fun h4 => ?_) (fun h4 => ?_)
  · first | rw [zb_0d] at h4 | rw [zn_lt0 (by omega)] at h4 | rw [zi_lt0] at h4
    exact h4.elim
  · first | rw [zb_0d] at h4 | rw [zn_lt0 (by omega)] at h4 | rw [zi_lt0] at h4
    refine go_aload_n (i := 0) (pc := 7) dX3_push_7 rfl rfl ?_
    refine go_geti fl_X3_20 (pc := 8) dX3_push_8 (by first | rfl | (apply zL_fi <;> first | assumption | decide) | (apply zR_fi <;> first | assumption | decide)) ?_
    rw [hP.2.2.1]
    refine go_bipush (nI 15) (pc := 11) dX3_push_11 (by decide) ?_
    refine go_icmp_ge 28 (pc := 13) dX3_push_13 (by decide) (fun h13 => ?_) (fun h13 => ?_)
    · first | rw [nI_leI (by omega) (by omega)] at h13 | rw [zi_leN (by omega)] at h13 | rw [zi_Nle (by omega)] at h13 | rw [zi_le] at h13
      omega
    · first | rw [nI_leI (by omega) (by omega)] at h13 | rw [zi_leN (by omega)] at h13 | rw [zi_Nle (by omega)] at h13 | rw [zi_le] at h13
      refine go_aload_n (i := 0) (pc := 16) dX3_push_16 rfl rfl ?_
      refine go_getr2 fl_X3_11 (pc := 17) dX3_push_17 (by first | rfl | (apply zL_ci <;> assumption) | (apply zR_ci <;> assumption)) (by first | rfl | (apply zL_in <;> first | assumption | decide) | (apply zR_in <;> first | assumption | decide)) (by first | rfl | (apply zL_fr0 <;> assumption) | (apply zL_fr1 <;> assumption) | (apply zR_fr0 <;> assumption) | (apply zR_fr1 <;> assumption) | (apply zR_fr2 <;> assumption) | (apply zR_fr3 <;> assumption)) ?_
      refine go_aload_n (i := 0) (pc := 20) dX3_push_20 rfl rfl ?_
      refine go_geti fl_X3_20 (pc := 21) dX3_push_21 (by first | rfl | (apply zL_fi <;> first | assumption | decide) | (apply zR_fi <;> first | assumption | decide)) ?_
      rw [hP.2.2.1]
      refine go_aaload nx (pc := 24) dX3_push_24 rfl rfl rfl h1 ?_
      refine go_ifnonnull 29 (pc := 25) dX3_push_25 (by decide) ?_
      refine go_aload_n (i := 0) (pc := 29) dX3_push_29 rfl rfl ?_
      refine go_getr2 fl_X3_11 (pc := 30) dX3_push_30 (by first | rfl | (apply zL_ci <;> assumption) | (apply zR_ci <;> assumption)) (by first | rfl | (apply zL_in <;> first | assumption | decide) | (apply zR_in <;> first | assumption | decide)) (by first | rfl | (apply zL_fr0 <;> assumption) | (apply zL_fr1 <;> assumption) | (apply zR_fr0 <;> assumption) | (apply zR_fr1 <;> assumption) | (apply zR_fr2 <;> assumption) | (apply zR_fr3 <;> assumption)) ?_
      refine go_aload_n (i := 0) (pc := 33) dX3_push_33 rfl rfl ?_
      refine go_geti fl_X3_20 (pc := 34) dX3_push_34 (by first | rfl | (apply zL_fi <;> first | assumption | decide) | (apply zR_fi <;> first | assumption | decide)) ?_
      rw [hP.2.2.1]
      refine go_aaload nx (pc := 37) dX3_push_37 rfl rfl rfl h1 ?_
      refine go_aload_n (i := 1) (pc := 38) dX3_push_38 rfl rfl ?_
      refine go_callV ml_X3_23 mt_X2_copyFrom (pc := 39) dX3_push_39 (c_X2_copyFrom hz hk hL) (by first | rfl | (apply zL_cq <;> assumption) | (apply zR_cq <;> assumption)) rfl (by first | rfl | (apply zL_in <;> first | assumption | decide) | (apply zR_in <;> first | assumption | decide)) (by decide) (by decide) rfl rfl (Nat.le_of_ble_eq_true rfl) (fun r σ' hp => ?_)
      obtain ⟨rfl, hL2, hf⟩ := hp
      dsimp only [zRet]
      refine go_aload_n (i := 0) (pc := 42) dX3_push_42 rfl rfl ?_
      refine go_aload_n (i := 0) (pc := 43) dX3_push_43 rfl rfl ?_
      refine go_geti fl_X3_20 (pc := 44) dX3_push_44 (by first | rfl | (apply zL_fi <;> first | assumption | decide) | (apply zR_fi <;> first | assumption | decide)) ?_
      rw [(hf.1 9 (by simp; omega)).1, hP.2.2.1]
      refine go_iconst (nI 1) (pc := 47) dX3_push_47 (by decide) ?_
      first | with_reducible refine go_iaddN (pc := 48) dX3_push_48 ?_ | refine go_iadd (pc := 48) dX3_push_48 ?_
      refine go_bipush (nI 15) (pc := 49) dX3_push_49 (by decide) ?_
      refine go_irem (pc := 51) dX3_push_51 (by decide) ?_
      rw [pk_rem (by omega) (by decide) (by decide)]
      refine go_puti fp_X3_20 (pc := 52) dX3_push_52 (by first | rfl | (apply zL_fi <;> first | assumption | decide) | (apply zR_fi <;> first | assumption | decide)) rfl rfl ?_
      refine go_aload_n (i := 0) (pc := 55) dX3_push_55 rfl rfl ?_
      refine go_aload_n (i := 0) (pc := 56) dX3_push_56 rfl rfl ?_
      refine go_geti fl_X3_16 (pc := 57) dX3_push_57 (by first | rfl | (apply zL_fi <;> first | assumption | decide) | (apply zR_fi <;> first | assumption | decide)) ?_
      rw [uS_1, if_neg (by simp), (hf.1 9 (by simp; omega)).1, hP.2.2.2.1]
      refine go_iconst (nI 1) (pc := 60) dX3_push_60 (by decide) ?_
      first | with_reducible refine go_iaddN (pc := 61) dX3_push_61 ?_ | refine go_iadd (pc := 61) dX3_push_61 ?_
      refine go_bipush (nI 15) (pc := 62) dX3_push_62 (by decide) ?_
      refine go_callS ml_X3_27 mt_J9_min_7cf53 (pc := 64) dX3_push_64 (c_J9_minN (by omega) (by omega)) (by decide) (by decide) rfl rfl (Nat.le_of_ble_eq_true rfl) (fun r σ' hp => ?_)
      obtain ⟨rfl, hσ⟩ := hp
      rw [hσ]
      clear hσ σ'
      dsimp only [zRet]
      refine go_puti fp_X3_16 (pc := 67) dX3_push_67 (by first | rfl | (apply zL_fi <;> first | assumption | decide) | (apply zR_fi <;> first | assumption | decide)) rfl rfl ?_
      refine go_return (pc := 70) dX3_push_70 rfl ?_
      have hfr : FrG [9] σ' (uS (uS σ' 9 1 (nI ((nx + 1) % 15))) 9 2 (nI (min (sz + 1) 15))) := (FrG.rf.uS (by simp)).uS (by simp)
      refine ⟨rfl, ⟨Nat.mod_lt _ (by decide), by omega, by simp [uS_1], by simp [uS_1], fun i hi => ?_⟩, ((hf.mono (fun q hq => by simp at hq; subst hq; exact pastS_mem h1)).uS (by decide)).uS (by decide)⟩
      by_cases e : i + 1 = min (sz + 1) 15
      · have eg : 10 + ((nx + 1) % 15 + 15 - min (sz + 1) 15 + i) % 15 = 10 + nx := by omega
        have eh : pushH Hs sz ρ i = ρ := by
          unfold pushH
          split
          · exact if_pos (by omega)
          · exact if_pos (by omega)
        rw [eg, eh]
        exact hL2.fr hfr (by simp; omega)
      · by_cases e15 : sz = 15
        · have eg : 10 + ((nx + 1) % 15 + 15 - min (sz + 1) 15 + i) % 15 = 10 + (nx + 15 - sz + (i + 1)) % 15 := by omega
          have eh : pushH Hs sz ρ i = Hs (i + 1) := by unfold pushH; rw [if_pos e15]; exact if_neg (by omega)
          rw [eg, eh]
          exact ((hP.2.2.2.2 (i + 1) (by omega)).fr hf (by simp; omega)).fr hfr (by simp; omega)
        · have eg : 10 + ((nx + 1) % 15 + 15 - min (sz + 1) 15 + i) % 15 = 10 + (nx + 15 - sz + i) % 15 := by omega
          have eh : pushH Hs sz ρ i = Hs i := by unfold pushH; rw [if_neg e15]; exact if_neg (by omega)
          rw [eg, eh]
          exact ((hP.2.2.2.2 i (by omega)).fr hf (by simp; omega)).fr hfr (by simp; omega)

theorem c_X3_pop {E : zE} {σ : zT} {nx sz n : Nat} {Hs : Nat → Nat → Nat} {k : Nat} (hP : PastIs σ nx sz n Hs) (hk : zL k = true) (hkp : k ∉ pastS) : CalM E 2 yX3_pop cX3_pop 3 (some .boolean) [.ref (zA E 9 0), .ref (zA E k 0)] σ (fun r σ' => r = some (.int (zb (decide (0 < sz)))) ∧ (if 0 < sz then PastIs σ' ((nx + 14) % 15) (sz - 1) n Hs ∧ LandIs σ' k n (Hs (sz - 1)) ∧ FrG [9, k] σ σ' else σ' = σ)) := by
  refine cal_of_go (own := RX3) rfl (by decide +kernel) (Nat.le_of_ble_eq_true rfl) ?_
  have h1 := hP.1
  have h2 := hP.2.1
  have h14 : (nx + 14) % 15 < 15 := Nat.mod_lt _ (by decide)
  have hz := zL_past h14
  refine go_aload_n (i := 0) (pc := 0) dX3_pop_0 rfl rfl ?_
  refine go_geti fl_X3_20 (pc := 1) dX3_pop_1 (by first | rfl | (apply zL_fi <;> first | assumption | decide) | (apply zR_fi <;> first | assumption | decide)) ?_
  rw [hP.2.2.1]
  refine go_bipush (nI 15) (pc := 4) dX3_pop_4 (by decide) ?_
  first | with_reducible refine go_iaddN (pc := 6) dX3_pop_6 ?_ | refine go_iadd (pc := 6) dX3_pop_6 ?_
  refine go_iconst (nI 1) (pc := 7) dX3_pop_7 (by decide) ?_
  refine go_isubN (pc := 8) dX3_pop_8 (by omega) ?_
  refine go_bipush (nI 15) (pc := 9) dX3_pop_9 (by decide) ?_
  refine go_irem (pc := 11) dX3_pop_11 (by decide) ?_
  rw [pk_rem (by omega) (by decide) (by decide), show nx + 15 - 1 = nx + 14 by omega]
  refine go_istore_n (i := 2) (pc := 12) dX3_pop_12 rfl (by decide) ?_
  refine go_aload_n (i := 0) (pc := 13) dX3_pop_13 rfl rfl ?_
  refine go_geti fl_X3_16 (pc := 14) dX3_pop_14 (by first | rfl | (apply zL_fi <;> first | assumption | decide) | (apply zR_fi <;> first | assumption | decide)) ?_
  rw [hP.2.2.2.1]
  refine go_if_le 39 (pc := 17) dX3_pop_17 (by decide) (fun h17 => ?_) (fun h17 => ?_)
  · first | rw [zb_0d] at h17 | rw [zn_le0 (by omega)] at h17 | rw [zi_le0] at h17
    refine go_iconst (nI 0) (pc := 39) dX3_pop_39 (by decide) ?_
    refine go_zreturn (pc := 40) dX3_pop_40 rfl rfl ?_
    exact ⟨zr_f (by omega), by rw [if_neg (by omega)]⟩
  · first | rw [zb_0d] at h17 | rw [zn_le0 (by omega)] at h17 | rw [zi_le0] at h17
    refine go_iload_n (i := 2) (pc := 20) dX3_pop_20 rfl rfl ?_
    refine go_if_lt 39 (pc := 21) dX3_pop_21 (by decide) (fun h21 => ?_) (fun h21 => ?_)
    · first | rw [zb_0d] at h21 | rw [zn_lt0 (by omega)] at h21 | rw [zi_lt0] at h21
      exact h21.elim
    · first | rw [zb_0d] at h21 | rw [zn_lt0 (by omega)] at h21 | rw [zi_lt0] at h21
      refine go_iload_n (i := 2) (pc := 24) dX3_pop_24 rfl rfl ?_
      refine go_bipush (nI 15) (pc := 25) dX3_pop_25 (by decide) ?_
      refine go_icmp_ge 39 (pc := 27) dX3_pop_27 (by decide) (fun h27 => ?_) (fun h27 => ?_)
      · first | rw [nI_leI (by omega) (by omega)] at h27 | rw [zi_leN (by omega)] at h27 | rw [zi_Nle (by omega)] at h27 | rw [zi_le] at h27
        omega
      · first | rw [nI_leI (by omega) (by omega)] at h27 | rw [zi_leN (by omega)] at h27 | rw [zi_Nle (by omega)] at h27 | rw [zi_le] at h27
        refine go_aload_n (i := 0) (pc := 30) dX3_pop_30 rfl rfl ?_
        refine go_getr2 fl_X3_11 (pc := 31) dX3_pop_31 (by first | rfl | (apply zL_ci <;> assumption) | (apply zR_ci <;> assumption)) (by first | rfl | (apply zL_in <;> first | assumption | decide) | (apply zR_in <;> first | assumption | decide)) (by first | rfl | (apply zL_fr0 <;> assumption) | (apply zL_fr1 <;> assumption) | (apply zR_fr0 <;> assumption) | (apply zR_fr1 <;> assumption) | (apply zR_fr2 <;> assumption) | (apply zR_fr3 <;> assumption)) ?_
        refine go_iload_n (i := 2) (pc := 34) dX3_pop_34 rfl rfl ?_
        refine go_aaload ((nx + 14) % 15) (pc := 35) dX3_pop_35 rfl rfl rfl h14 ?_
        refine go_ifnonnull 41 (pc := 36) dX3_pop_36 (by decide) ?_
        have h0 : 0 < sz := by omega
        have hL := hP.2.2.2.2 (sz - 1) (by omega)
        rw [show (nx + 15 - sz + (sz - 1)) % 15 = (nx + 14) % 15 by omega] at hL
        refine go_aload_n (i := 1) (pc := 41) dX3_pop_41 rfl rfl ?_
        refine go_aload_n (i := 0) (pc := 42) dX3_pop_42 rfl rfl ?_
        refine go_getr2 fl_X3_11 (pc := 43) dX3_pop_43 (by first | rfl | (apply zL_ci <;> assumption) | (apply zR_ci <;> assumption)) (by first | rfl | (apply zL_in <;> first | assumption | decide) | (apply zR_in <;> first | assumption | decide)) (by first | rfl | (apply zL_fr0 <;> assumption) | (apply zL_fr1 <;> assumption) | (apply zR_fr0 <;> assumption) | (apply zR_fr1 <;> assumption) | (apply zR_fr2 <;> assumption) | (apply zR_fr3 <;> assumption)) ?_
        refine go_iload_n (i := 2) (pc := 46) dX3_pop_46 rfl rfl ?_
        refine go_aaload ((nx + 14) % 15) (pc := 47) dX3_pop_47 rfl rfl rfl h14 ?_
        refine go_callV ml_X3_23 mt_X2_copyFrom (pc := 48) dX3_pop_48 (c_X2_copyFrom hk hz hL) (by first | rfl | (apply zL_cq <;> assumption) | (apply zR_cq <;> assumption)) rfl (by first | rfl | (apply zL_in <;> first | assumption | decide) | (apply zR_in <;> first | assumption | decide)) (by decide) (by decide) rfl rfl (Nat.le_of_ble_eq_true rfl) (fun r σ' hp => ?_)
        obtain ⟨rfl, hL2, hf⟩ := hp
        dsimp only [zRet]
        refine go_aload_n (i := 0) (pc := 51) dX3_pop_51 rfl rfl ?_
        refine go_iload_n (i := 2) (pc := 52) dX3_pop_52 rfl rfl ?_
        refine go_puti fp_X3_20 (pc := 53) dX3_pop_53 (by first | rfl | (apply zL_fi <;> first | assumption | decide) | (apply zR_fi <;> first | assumption | decide)) rfl rfl ?_
        refine go_aload_n (i := 0) (pc := 56) dX3_pop_56 rfl rfl ?_
        refine go_dup (pc := 57) dX3_pop_57 rfl ?_
        refine go_geti fl_X3_16 (pc := 58) dX3_pop_58 (by first | rfl | (apply zL_fi <;> first | assumption | decide) | (apply zR_fi <;> first | assumption | decide)) ?_
        rw [uS_1, if_neg (by simp), (hf.1 9 (by simp; intro e; rw [← e] at hkp; exact hkp (by decide))).1, hP.2.2.2.1]
        refine go_iconst (nI 1) (pc := 61) dX3_pop_61 (by decide) ?_
        first | with_reducible refine go_isubN (pc := 62) dX3_pop_62 (by omega) ?_ | refine go_isub (pc := 62) dX3_pop_62 ?_
        refine go_puti fp_X3_16 (pc := 63) dX3_pop_63 (by first | rfl | (apply zL_fi <;> first | assumption | decide) | (apply zR_fi <;> first | assumption | decide)) rfl rfl ?_
        refine go_iconst (nI 1) (pc := 66) dX3_pop_66 (by decide) ?_
        refine go_zreturn (pc := 67) dX3_pop_67 rfl (by first | rfl | (apply zb_nar)) ?_
        refine ⟨zr_t h0, ?_⟩
        rw [if_pos h0]
        have hfr : FrG [9] σ' (uS (uS σ' 9 1 (nI ((nx + 14) % 15))) 9 2 (nI (sz - 1))) := (FrG.rf.uS (by simp)).uS (by simp)
        have hk9 : k ≠ 9 := fun e => hkp (by rw [e]; decide)
        refine ⟨⟨h14, by omega, by simp [uS_1], by simp [uS_1], fun i hi => ?_⟩, hL2.fr hfr (by simpa using hk9), ((hf.mono (fun q hq => by simp at hq; simp [hq])).uS (by simp)).uS (by simp)⟩
        have eg : 10 + ((nx + 14) % 15 + 15 - (sz - 1) + i) % 15 = 10 + (nx + 15 - sz + i) % 15 := by omega
        rw [eg]
        have hne : 10 + (nx + 15 - sz + i) % 15 ≠ k := fun e => hkp (by rw [← e]; exact pastS_mem (Nat.mod_lt _ (by decide)))
        exact ((hP.2.2.2.2 i (by omega)).fr hf (by simpa using hne)).fr hfr (by simp; omega)

/-- the shelf -/
def ShelfIs (σ : zT) (fl n : Nat) (Kp : Nat → Nat → Nat) : Prop := fl < 8 ∧ σ.1 25 1 = nI fl ∧ ∀ i, i < 3 → fl.testBit i = true → LandIs σ (26 + i) n (Kp i)
def shelfS : List Nat := [25, 26, 27, 28]
theorem zL_shelf {i : Nat} (h : i < 3) : zL (26 + i) = true := by
  have : ∀ i : Nat, i < 3 → zL (26 + i) = true := by decide
  exact this i h
theorem shelfS_mem {i : Nat} (h : i < 3) : 26 + i ∈ shelfS := by
  have : ∀ i : Nat, i < 3 → 26 + i ∈ shelfS := by decide
  exact this i h
theorem ShelfIs.fr {σ σ' : zT} {fl n : Nat} {Kp : Nat → Nat → Nat} {S : List Nat} (h : ShelfIs σ fl n Kp) (hf : FrG S σ σ') (hS : ∀ a ∈ shelfS, a ∉ S) : ShelfIs σ' fl n Kp := by
  obtain ⟨e1, -, -⟩ := hf.1 25 (hS 25 (by decide))
  exact ⟨h.1, by rw [e1]; exact h.2.1, fun i hi hb => (h.2.2 i hi hb).fr hf (hS _ (shelfS_mem hi))⟩
theorem or_bit : ∀ fl : Nat, fl < 8 → ∀ i : Nat, i < 3 → fl ||| 2 ^ i < 8 ∧ ∀ j : Nat, j < 3 → (fl ||| 2 ^ i).testBit j = (fl.testBit j || decide (j = i)) := by decide

theorem c_X6_clear {E : zE} {σ : zT}   : CalM E 0 yX6_clear cX6_clear 1 none [.ref (zA E 25 0)] σ (fun r σ' => r = none ∧ (∀ n' Kp', ShelfIs σ' 0 n' Kp') ∧ FrG [25] σ σ') := by
  refine cal_of_go (own := RX6) rfl (by decide +kernel) (Nat.le_of_ble_eq_true rfl) ?_
  refine go_aload_n (i := 0) (pc := 0) dX6_clear_0 rfl rfl ?_
  refine go_iconst (nI 0) (pc := 1) dX6_clear_1 (by decide) ?_
  refine go_puti fp_X6_16 (pc := 2) dX6_clear_2 (by first | rfl | (apply zL_fi <;> first | assumption | decide) | (apply zR_fi <;> first | assumption | decide)) rfl rfl ?_
  refine go_return (pc := 5) dX6_clear_5 rfl ?_
  exact ⟨rfl, fun n2 K2 => ⟨by omega, by simp [uS_1], fun i hi hb => absurd hb (by simp)⟩, FrG.rf.uS (by simp)⟩

theorem c_X6_put {E : zE} {σ : zT} {fl n : Nat} {Kp : Nat → Nat → Nat} {k : Nat} {i : Int32} {ρ : Nat → Nat} (hS : ShelfIs σ fl n Kp) (hk : zL k = true) (hL : LandIs σ k n ρ) : CalM E 2 yX6_put cX6_put 3 (some .boolean) [.ref (zA E 25 0), .int i, .ref (zA E k 0)] σ (fun r σ' => r = some (.int (zb (decide (0 ≤ i.toInt ∧ i.toInt < 3)))) ∧ (if 0 ≤ i.toInt ∧ i.toInt < 3 then ShelfIs σ' (fl ||| 2 ^ i.toInt.toNat) n (fun j => if j = i.toInt.toNat then ρ else Kp j) ∧ FrG shelfS σ σ' else σ' = σ)) := by
  refine cal_of_go (own := RX6) rfl (by decide +kernel) (Nat.le_of_ble_eq_true rfl) ?_
  refine go_iload_n (i := 1) (pc := 0) dX6_put_0 rfl rfl ?_
  refine go_if_lt 18 (pc := 1) dX6_put_1 (by decide) (fun h1 => ?_) (fun h1 => ?_)
  · first | rw [zb_0d] at h1 | rw [zn_lt0 (by omega)] at h1 | rw [zi_lt0] at h1
    refine go_iconst (nI 0) (pc := 18) dX6_put_18 (by decide) ?_
    refine go_zreturn (pc := 19) dX6_put_19 rfl rfl ?_
    exact ⟨zr_f (by omega), by rw [if_neg (by omega)]⟩
  · first | rw [zb_0d] at h1 | rw [zn_lt0 (by omega)] at h1 | rw [zi_lt0] at h1
    refine go_iload_n (i := 1) (pc := 4) dX6_put_4 rfl rfl ?_
    refine go_iconst (nI 3) (pc := 5) dX6_put_5 (by decide) ?_
    refine go_icmp_ge 18 (pc := 6) dX6_put_6 (by decide) (fun h6 => ?_) (fun h6 => ?_)
    · first | rw [nI_leI (by omega) (by omega)] at h6 | rw [zi_leN (by omega)] at h6 | rw [zi_Nle (by omega)] at h6 | rw [zi_le] at h6
      refine go_iconst (nI 0) (pc := 18) dX6_put_18 (by decide) ?_
      refine go_zreturn (pc := 19) dX6_put_19 rfl rfl ?_
      exact ⟨zr_f (by omega), by rw [if_neg (by omega)]⟩
    · first | rw [nI_leI (by omega) (by omega)] at h6 | rw [zi_leN (by omega)] at h6 | rw [zi_Nle (by omega)] at h6 | rw [zi_le] at h6
      refine go_aload_n (i := 0) (pc := 9) dX6_put_9 rfl rfl ?_
      refine go_getr2 fl_X6_11 (pc := 10) dX6_put_10 (by first | rfl | (apply zL_ci <;> assumption) | (apply zR_ci <;> assumption)) (by first | rfl | (apply zL_in <;> first | assumption | decide) | (apply zR_in <;> first | assumption | decide)) (by first | rfl | (apply zL_fr0 <;> assumption) | (apply zL_fr1 <;> assumption) | (apply zR_fr0 <;> assumption) | (apply zR_fr1 <;> assumption) | (apply zR_fr2 <;> assumption) | (apply zR_fr3 <;> assumption)) ?_
      refine go_iload_n (i := 1) (pc := 13) dX6_put_13 rfl rfl ?_
      refine go_aaload i.toInt.toNat (pc := 14) dX6_put_14 rfl rfl (nI_of' (by omega)) (by omega) ?_
      refine go_ifnonnull 20 (pc := 15) dX6_put_15 (by decide) ?_
      have h3 : 0 ≤ i.toInt ∧ i.toInt < 3 := by omega
      have ei := nI_of' h3.1
      generalize hq : i.toInt.toNat = q at ei ⊢
      have hq3 : q < 3 := by omega
      have hz := zL_shelf hq3
      subst ei
      refine go_aload_n (i := 0) (pc := 20) dX6_put_20 rfl rfl ?_
      refine go_getr2 fl_X6_11 (pc := 21) dX6_put_21 (by first | rfl | (apply zL_ci <;> assumption) | (apply zR_ci <;> assumption)) (by first | rfl | (apply zL_in <;> first | assumption | decide) | (apply zR_in <;> first | assumption | decide)) (by first | rfl | (apply zL_fr0 <;> assumption) | (apply zL_fr1 <;> assumption) | (apply zR_fr0 <;> assumption) | (apply zR_fr1 <;> assumption) | (apply zR_fr2 <;> assumption) | (apply zR_fr3 <;> assumption)) ?_
      refine go_iload_n (i := 1) (pc := 24) dX6_put_24 rfl rfl ?_
      refine go_aaload q (pc := 25) dX6_put_25 rfl rfl rfl (by omega) ?_
      refine go_aload_n (i := 2) (pc := 26) dX6_put_26 rfl rfl ?_
      refine go_callV ml_X6_20 mt_X2_copyFrom (pc := 27) dX6_put_27 (c_X2_copyFrom (zL_shelf hq3) hk hL) (by first | rfl | (apply zL_cq <;> assumption) | (apply zR_cq <;> assumption)) rfl (by first | rfl | (apply zL_in <;> first | assumption | decide) | (apply zR_in <;> first | assumption | decide)) (by decide) (by decide) rfl rfl (Nat.le_of_ble_eq_true rfl) (fun r σ' hp => ?_)
      obtain ⟨rfl, hL2, hf⟩ := hp
      dsimp only [zRet]
      refine go_aload_n (i := 0) (pc := 30) dX6_put_30 rfl rfl ?_
      refine go_dup (pc := 31) dX6_put_31 rfl ?_
      refine go_geti fl_X6_16 (pc := 32) dX6_put_32 (by first | rfl | (apply zL_fi <;> first | assumption | decide) | (apply zR_fi <;> first | assumption | decide)) ?_
      rw [(hf.1 25 (by simp; omega)).1, hS.2.1]
      refine go_iconst (nI 1) (pc := 35) dX6_put_35 (by decide) ?_
      refine go_iload_n (i := 1) (pc := 36) dX6_put_36 rfl rfl ?_
      refine go_ishl (pc := 37) dX6_put_37 ?_
      rw [zshl1 q (by omega)]
      refine go_ior (pc := 38) dX6_put_38 ?_
      rw [zorN]
      refine go_puti fp_X6_16 (pc := 39) dX6_put_39 (by first | rfl | (apply zL_fi <;> first | assumption | decide) | (apply zR_fi <;> first | assumption | decide)) rfl rfl ?_
      refine go_iconst (nI 1) (pc := 42) dX6_put_42 (by decide) ?_
      refine go_zreturn (pc := 43) dX6_put_43 rfl (by first | rfl | (apply zb_nar)) ?_
      refine ⟨zr_t h3, ?_⟩
      rw [if_pos h3]
      have hb := or_bit fl hS.1 q hq3
      refine ⟨⟨hb.1, by simp [uS_1], fun j hj hj2 => ?_⟩, (hf.mono (fun a ha => by simp at ha; subst ha; exact shelfS_mem hq3)).uS (by decide)⟩
      rw [hb.2 j hj] at hj2
      by_cases e : j = q
      · subst e
        simp only [if_pos]
        exact hL2.fr (FrG.rf.uS (S := [25]) (by simp)) (by simp; omega)
      · simp only [if_neg e]
        have hj3 : fl.testBit j = true := by simpa [e] using hj2
        exact ((hS.2.2 j hj hj3).fr hf (by simp; omega)).fr (FrG.rf.uS (S := [25]) (by simp)) (by simp; omega)

theorem c_X6_take {E : zE} {σ : zT} {fl n : Nat} {Kp : Nat → Nat → Nat} {k : Nat} {i : Int32} (hS : ShelfIs σ fl n Kp) (hk : zL k = true) : CalM E 2 yX6_take cX6_take 3 (some .boolean) [.ref (zA E 25 0), .int i, .ref (zA E k 0)] σ (fun r σ' => r = some (.int (zb (decide (0 ≤ i.toInt ∧ i.toInt < 3 ∧ fl.testBit i.toInt.toNat = true)))) ∧ (if 0 ≤ i.toInt ∧ i.toInt < 3 ∧ fl.testBit i.toInt.toNat = true then LandIs σ' k n (Kp i.toInt.toNat) ∧ FrG [k] σ σ' else σ' = σ)) := by
  refine cal_of_go (own := RX6) rfl (by decide +kernel) (Nat.le_of_ble_eq_true rfl) ?_
  refine go_iload_n (i := 1) (pc := 0) dX6_take_0 rfl rfl ?_
  refine go_if_lt 29 (pc := 1) dX6_take_1 (by decide) (fun h1 => ?_) (fun h1 => ?_)
  · first | rw [zb_0d] at h1 | rw [zn_lt0 (by omega)] at h1 | rw [zi_lt0] at h1
    refine go_iconst (nI 0) (pc := 29) dX6_take_29 (by decide) ?_
    refine go_zreturn (pc := 30) dX6_take_30 rfl (by first | rfl | (apply zb_nar)) ?_
    exact ⟨zr_f (by omega), by rw [if_neg (by omega)]⟩
  · first | rw [zb_0d] at h1 | rw [zn_lt0 (by omega)] at h1 | rw [zi_lt0] at h1
    refine go_iload_n (i := 1) (pc := 4) dX6_take_4 rfl rfl ?_
    refine go_iconst (nI 3) (pc := 5) dX6_take_5 (by decide) ?_
    refine go_icmp_ge 29 (pc := 6) dX6_take_6 (by decide) (fun h6 => ?_) (fun h6 => ?_)
    · first | rw [nI_leI (by omega) (by omega)] at h6 | rw [zi_leN (by omega)] at h6 | rw [zi_Nle (by omega)] at h6 | rw [zi_le] at h6
      refine go_iconst (nI 0) (pc := 29) dX6_take_29 (by decide) ?_
      refine go_zreturn (pc := 30) dX6_take_30 rfl (by first | rfl | (apply zb_nar)) ?_
      exact ⟨zr_f (by omega), by rw [if_neg (by omega)]⟩
    · first | rw [nI_leI (by omega) (by omega)] at h6 | rw [zi_leN (by omega)] at h6 | rw [zi_Nle (by omega)] at h6 | rw [zi_le] at h6
      have h3 : 0 ≤ i.toInt ∧ i.toInt < 3 := by omega
      have ei := nI_of' h3.1
      generalize hq : i.toInt.toNat = q at ei ⊢
      have hq3 : q < 3 := by omega
      subst ei
      refine go_aload_n (i := 0) (pc := 9) dX6_take_9 rfl rfl ?_
      refine go_getr2 fl_X6_11 (pc := 10) dX6_take_10 (by first | rfl | (apply zL_ci <;> assumption) | (apply zR_ci <;> assumption)) (by first | rfl | (apply zL_in <;> first | assumption | decide) | (apply zR_in <;> first | assumption | decide)) (by first | rfl | (apply zL_fr0 <;> assumption) | (apply zL_fr1 <;> assumption) | (apply zR_fr0 <;> assumption) | (apply zR_fr1 <;> assumption) | (apply zR_fr2 <;> assumption) | (apply zR_fr3 <;> assumption)) ?_
      refine go_iload_n (i := 1) (pc := 13) dX6_take_13 rfl rfl ?_
      refine go_aaload q (pc := 14) dX6_take_14 rfl rfl rfl (by omega) ?_
      refine go_ifnull_no (pc := 15) dX6_take_15 ?_
      refine go_aload_n (i := 0) (pc := 18) dX6_take_18 rfl rfl ?_
      refine go_geti fl_X6_16 (pc := 19) dX6_take_19 (by first | rfl | (apply zL_fi <;> first | assumption | decide) | (apply zR_fi <;> first | assumption | decide)) ?_
      rw [hS.2.1]
      refine go_iload_n (i := 1) (pc := 22) dX6_take_22 rfl rfl ?_
      refine go_ishr (pc := 23) dX6_take_23 ?_
      refine go_iconst (nI 1) (pc := 24) dX6_take_24 (by decide) ?_
      refine go_iand (pc := 25) dX6_take_25 ?_
      rw [zbit (by have := hS.1; omega) (by omega)]
      refine go_if_ne 31 (pc := 26) dX6_take_26 (by decide) (fun h26 => ?_) (fun h26 => ?_)
      · rw [nI_if] at h26
        have hbt : fl.testBit q = true := by simpa using h26
        refine go_aload_n (i := 2) (pc := 31) dX6_take_31 rfl rfl ?_
        refine go_aload_n (i := 0) (pc := 32) dX6_take_32 rfl rfl ?_
        refine go_getr2 fl_X6_11 (pc := 33) dX6_take_33 (by first | rfl | (apply zL_ci <;> assumption) | (apply zR_ci <;> assumption)) (by first | rfl | (apply zL_in <;> first | assumption | decide) | (apply zR_in <;> first | assumption | decide)) (by first | rfl | (apply zL_fr0 <;> assumption) | (apply zL_fr1 <;> assumption) | (apply zR_fr0 <;> assumption) | (apply zR_fr1 <;> assumption) | (apply zR_fr2 <;> assumption) | (apply zR_fr3 <;> assumption)) ?_
        refine go_iload_n (i := 1) (pc := 36) dX6_take_36 rfl rfl ?_
        refine go_aaload q (pc := 37) dX6_take_37 rfl rfl rfl (by omega) ?_
        refine go_callV ml_X6_20 mt_X2_copyFrom (pc := 38) dX6_take_38 (c_X2_copyFrom hk (zL_shelf hq3) (hS.2.2 q hq3 hbt)) (by first | rfl | (apply zL_cq <;> assumption) | (apply zR_cq <;> assumption)) rfl (by first | rfl | (apply zL_in <;> first | assumption | decide) | (apply zR_in <;> first | assumption | decide)) (by decide) (by decide) rfl rfl (Nat.le_of_ble_eq_true rfl) (fun r σ' hp => ?_)
        obtain ⟨rfl, hL2, hf⟩ := hp
        dsimp only [zRet]
        refine go_iconst (nI 1) (pc := 41) dX6_take_41 (by decide) ?_
        refine go_zreturn (pc := 42) dX6_take_42 rfl (by first | rfl | (apply zb_nar)) ?_
        exact ⟨zr_t ⟨h3.1, h3.2, hbt⟩, by rw [if_pos ⟨h3.1, h3.2, hbt⟩]; exact ⟨hL2, hf⟩⟩
      · rw [nI_if] at h26
        have hbt : ¬ fl.testBit q = true := by simpa using h26
        refine go_iconst (nI 0) (pc := 29) dX6_take_29 (by decide) ?_
        refine go_zreturn (pc := 30) dX6_take_30 rfl (by first | rfl | (apply zb_nar)) ?_
        exact ⟨zr_f (fun h => hbt h.2.2), by rw [if_neg (fun h => hbt h.2.2)]⟩

