section PB1
variable {σ σ' : zT} {tx : Nat × (Nat → Nat)} {bd : Nat × (Nat → Nat) × (Nat → Nat)} {sk : Nat × (Nat → Nat)} {tw : Nat × (Nat → Nat) × (Nat → Nat)} {xs : List Nat} {ld : Nat × (Nat → Nat)} {pa sh : Nat × (Nat → Nat → Nat)} {ru : Nat × (Nat → Nat) × (Nat → Nat)} {to : Nat × (Nat → Int64)}
theorem ClsIs.setLP {pa' : Nat × (Nat → Nat → Nat)} {ρ' : Nat → Nat} {nx : Nat} (h : ClsIs σ tx bd sk tw xs ld pa sh ru to) (hf : FrG [9, 6] σ σ') (hP : PastIs σ' nx pa'.1 ld.1 pa'.2) (hL : LandIs σ' 6 ld.1 ρ') : ClsIs σ' tx bd sk tw xs (ld.1, ρ') pa' sh ru to := by
  obtain ⟨⟨kr, k1, k2, k3, k4⟩, h2, h3, h4, h5, h6, -, h8, h9, h10⟩ := h
  have hk := zR_cases k1
  exact ⟨⟨kr, k1, by rw [hf.2]; exact k2, by rw [hf.2]; exact k3, k4.fr hf (by simp; omega)⟩, h2.fr hf (by decide), h3.fr hf (by decide), h4.fr hf (by decide), h5.fr hf (by decide), hL, ⟨nx, hP⟩, h8.fr hf (by decide), h9.fr hf (by decide), h10.fr hf (by decide)⟩
/-- weeks over the land itself -/
theorem ClsIs.setW {ρ' : Nat → Nat} {kr : Nat} (h : ClsIs σ tx bd sk tw xs ld pa sh ru to) (hkr : zRl kr = true) (hk : σ.2.2.2 14 = kr) (hf : FrG [kr, 5, 6] σ σ') (hW : WIs σ' kr 6 (vOf bd sk xs ld.1) ρ') : ClsIs σ' tx bd sk tw xs (ld.1, ρ') pa sh ru to := by
  obtain ⟨⟨kr2, k1, k2, k3, k4⟩, h2, h3, h4, h5, h6, ⟨nx, h7⟩, h8, h9, h10⟩ := h
  have e : kr2 = kr := k2.symm.trans hk
  subst e
  have hkk := zR_cases k1
  obtain ⟨-, ⟨ys, e1, hR⟩, -, -, hL⟩ := hW
  refine ⟨⟨kr2, k1, by rw [hf.2]; exact k2, by rw [hf.2]; exact k3, ?_⟩, h2.fr hf (by simp; omega), h3.fr hf (by simp; omega), h4.fr hf (by simp; omega), h5.fr hf (by simp; omega), hL, ⟨nx, h7.fr hf (fun a ha => by simp only [pastS, List.mem_cons, List.not_mem_nil, or_false] at ha; simp; omega)⟩, h8.fr hf (fun a ha => by simp only [shelfS, List.mem_cons, List.not_mem_nil, or_false] at ha; simp; omega), h9.fr hf (by simp; omega), h10.fr hf (by simp; omega)⟩
  have e2 : ys = xs := e1.symm
  rw [← e2]
  exact hR
end PB1

theorem tPut_lt {f : Nat → Nat} {L : Nat} {v : Int32} (hf : ∀ i, i < 80 → f i < 256) : ∀ i, i < 80 → tPut f L v i < 256 := by
  intro i hi
  unfold tPut
  split
  · exact Nat.mod_lt _ (by decide)
  · exact hf i hi
def sSign (tx : Nat × (Nat → Nat)) (v : Int32) : Nat × (Nat → Nat) := if tx.1 + 4 ≤ 80 then (tx.1 + 4, tPut tx.2 tx.1 v) else tx
def sEnd (tx : Nat × (Nat → Nat)) (n : Int32) : Nat × (Nat → Nat) := if 0 ≤ n.toInt ∧ n.toInt ≤ (tx.1 : Int) then (n.toInt.toNat, tx.2) else tx

theorem c_X11_sign {E : zE} {σ : zT} {tx : Nat × (Nat → Nat)} {bd : Nat × (Nat → Nat) × (Nat → Nat)} {sk : Nat × (Nat → Nat)} {tw : Nat × (Nat → Nat) × (Nat → Nat)} {xs : List Nat} {ld : Nat × (Nat → Nat)} {pa sh : Nat × (Nat → Nat → Nat)} {ru : Nat × (Nat → Nat) × (Nat → Nat)} {to : Nat × (Nat → Int64)} {v : Int32} (hC : ClsIs σ tx bd sk tw xs ld pa sh ru to) : CalM E 1 yX11_sign cX11_sign 2 (some .int) [.ref (zA E 0 0), .int v] σ (fun r σ' => r = some (.int (if tx.1 + 4 ≤ 80 then nI (tx.1 + 4) else -1)) ∧ ClsIs σ' (sSign tx v) bd sk tw xs ld pa sh ru to ∧ Fr33 σ σ') := by
  refine cal_of_go (own := RX11) rfl (by decide +kernel) (Nat.le_of_ble_eq_true rfl) ?_
  have hT := hC.2.1
  have hL := hT.2.1
  refine go_aload_n (i := 0) (pc := 0) dX11_sign_0 rfl rfl ?_
  refine go_getr2 fl_X11_10 (pc := 1) dX11_sign_1 (by first | rfl | (apply zL_ci <;> assumption) | (apply zR_ci <;> assumption)) (by first | rfl | (apply zL_in <;> first | assumption | decide) | (apply zR_in <;> first | assumption | decide)) (by first | rfl | (apply zL_fr0 <;> assumption) | (apply zL_fr1 <;> assumption) | (apply zR_fr0 <;> assumption) | (apply zR_fr1 <;> assumption) | (apply zR_fr2 <;> assumption) | (apply zR_fr3 <;> assumption)) ?_
  refine go_iload_n (i := 1) (pc := 4) dX11_sign_4 rfl rfl ?_
  refine go_callV ml_X11_104 mt_X8_take (pc := 5) dX11_sign_5 (c_X8_take hT) (by first | rfl | (apply zL_cq <;> assumption) | (apply zR_cq <;> assumption)) rfl (by first | rfl | (apply zL_in <;> first | assumption | decide) | (apply zR_in <;> first | assumption | decide)) (by decide) (by decide) rfl rfl (Nat.le_of_ble_eq_true rfl) (fun r σ' hp => ?_)
  obtain ⟨rfl, hp⟩ := hp
  dsimp only [zRet]
  refine go_if_eq 21 (pc := 8) dX11_sign_8 (by decide) (fun h8 => ?_) (fun h8 => ?_)
  · first | rw [zb_0d] at h8 | rw [zn_eq0 (by omega)] at h8 | rw [zi_eq0] at h8
    rw [if_neg h8] at hp
    rw [hp]
    clear hp σ'
    refine go_iconst (-1) (pc := 21) dX11_sign_21 (by decide) ?_
    refine go_ireturn (pc := 22) dX11_sign_22 rfl ?_
    unfold sSign
    rw [if_neg h8, if_neg h8]
    exact ⟨rfl, hC, Fr33.rf⟩
  · first | rw [zb_0d] at h8 | rw [zn_eq0 (by omega)] at h8 | rw [zi_eq0] at h8
    have h8 : tx.1 + 4 ≤ 80 := by omega
    rw [if_pos h8] at hp
    obtain ⟨g, hg1, hg2⟩ := hp
    have hf : FrG [1] σ σ' := by rw [hg1]; exact (FrG.rf.uA (by simp)).uS (by simp)
    have hT2 : TextIs σ' (tx.1 + 4) (tPut tx.2 tx.1 v) := by
      rw [hg1]
      exact ⟨uS_s _ _ _ _, by omega, fun i hi => ⟨by rw [uS_2, uA_s]; exact hg2 i hi, tPut_lt (fun j hj => (hT.2.2 j hj).2) i hi⟩⟩
    refine go_aload_n (i := 0) (pc := 11) dX11_sign_11 rfl rfl ?_
    refine go_getr2 fl_X11_10 (pc := 12) dX11_sign_12 (by first | rfl | (apply zL_ci <;> assumption) | (apply zR_ci <;> assumption)) (by first | rfl | (apply zL_in <;> first | assumption | decide) | (apply zR_in <;> first | assumption | decide)) (by first | rfl | (apply zL_fr0 <;> assumption) | (apply zL_fr1 <;> assumption) | (apply zR_fr0 <;> assumption) | (apply zR_fr1 <;> assumption) | (apply zR_fr2 <;> assumption) | (apply zR_fr3 <;> assumption)) ?_
    refine go_callV ml_X11_108 mt_X8_size (pc := 15) dX11_sign_15 (c_X8_size hT2) (by first | rfl | (apply zL_cq <;> assumption) | (apply zR_cq <;> assumption)) rfl (by first | rfl | (apply zL_in <;> first | assumption | decide) | (apply zR_in <;> first | assumption | decide)) (by decide) (by decide) rfl rfl (Nat.le_of_ble_eq_true rfl) (fun r σ' hp => ?_)
    obtain ⟨rfl, hσ⟩ := hp
    rw [hσ]
    clear hσ σ'
    dsimp only [zRet]
    refine go_goto 22 (pc := 18) dX11_sign_18 (by decide) ?_
    refine go_ireturn (pc := 22) dX11_sign_22 rfl ?_
    unfold sSign
    rw [if_pos h8, if_pos h8]
    exact ⟨rfl, hC.setT hf hT2, Fr33.of hf (by simp)⟩

theorem c_X11_end {E : zE} {σ : zT} {tx : Nat × (Nat → Nat)} {bd : Nat × (Nat → Nat) × (Nat → Nat)} {sk : Nat × (Nat → Nat)} {tw : Nat × (Nat → Nat) × (Nat → Nat)} {xs : List Nat} {ld : Nat × (Nat → Nat)} {pa sh : Nat × (Nat → Nat → Nat)} {ru : Nat × (Nat → Nat) × (Nat → Nat)} {to : Nat × (Nat → Int64)} {n : Int32} (hC : ClsIs σ tx bd sk tw xs ld pa sh ru to) : CalM E 1 yX11_end cX11_end 2 (some .boolean) [.ref (zA E 0 0), .int n] σ (fun r σ' => r = some (.int (zb (decide (0 ≤ n.toInt ∧ n.toInt ≤ (tx.1 : Int))))) ∧ ClsIs σ' (sEnd tx n) bd sk tw xs ld pa sh ru to ∧ Fr33 σ σ') := by
  refine cal_of_go (own := RX11) rfl (by decide +kernel) (Nat.le_of_ble_eq_true rfl) ?_
  have hT := hC.2.1
  have hL := hT.2.1
  refine go_aload_n (i := 0) (pc := 0) dX11_end_0 rfl rfl ?_
  refine go_getr2 fl_X11_10 (pc := 1) dX11_end_1 (by first | rfl | (apply zL_ci <;> assumption) | (apply zR_ci <;> assumption)) (by first | rfl | (apply zL_in <;> first | assumption | decide) | (apply zR_in <;> first | assumption | decide)) (by first | rfl | (apply zL_fr0 <;> assumption) | (apply zL_fr1 <;> assumption) | (apply zR_fr0 <;> assumption) | (apply zR_fr1 <;> assumption) | (apply zR_fr2 <;> assumption) | (apply zR_fr3 <;> assumption)) ?_
  refine go_iload_n (i := 1) (pc := 4) dX11_end_4 rfl rfl ?_
  refine go_callV ml_X11_112 mt_X8_cut (pc := 5) dX11_end_5 (c_X8_cut hT) (by first | rfl | (apply zL_cq <;> assumption) | (apply zR_cq <;> assumption)) rfl (by first | rfl | (apply zL_in <;> first | assumption | decide) | (apply zR_in <;> first | assumption | decide)) (by decide) (by decide) rfl rfl (Nat.le_of_ble_eq_true rfl) (fun r σ' hp => ?_)
  obtain ⟨rfl, hp⟩ := hp
  dsimp only [zRet]
  refine go_zreturn (pc := 8) dX11_end_8 rfl (by first | rfl | (apply zb_nar)) ?_
  refine ⟨rfl, ?_⟩
  unfold sEnd
  by_cases h : 0 ≤ n.toInt ∧ n.toInt ≤ (tx.1 : Int)
  · rw [if_pos h] at hp ⊢
    have hf : FrG [1] σ σ' := by rw [hp]; exact FrG.rf.uS (by simp)
    exact ⟨hC.setT (tx' := (n.toInt.toNat, tx.2)) hf ⟨by rw [hp, uS_s]; exact nI_of' h.1, by dsimp only; omega, fun i hi => by rw [hp, uS_2]; exact hT.2.2 i hi⟩, Fr33.of hf (by simp)⟩
  · rw [if_neg h] at hp ⊢
    rw [hp]
    exact ⟨hC, Fr33.rf⟩

theorem c_X11_undo {E : zE} {σ : zT} {tx : Nat × (Nat → Nat)} {bd : Nat × (Nat → Nat) × (Nat → Nat)} {sk : Nat × (Nat → Nat)} {tw : Nat × (Nat → Nat) × (Nat → Nat)} {xs : List Nat} {ld : Nat × (Nat → Nat)} {pa sh : Nat × (Nat → Nat → Nat)} {ru : Nat × (Nat → Nat) × (Nat → Nat)} {to : Nat × (Nat → Int64)} (hC : ClsIs σ tx bd sk tw xs ld pa sh ru to) : CalM E 3 yX11_undo cX11_undo 1 (some .int) [.ref (zA E 0 0)] σ (fun r σ' => r = some (.int (if 0 < pa.1 then nI (pa.1 - 1) else -1)) ∧ ClsIs σ' tx bd sk tw xs (if 0 < pa.1 then (ld.1, pa.2 (pa.1 - 1)) else ld) (if 0 < pa.1 then (pa.1 - 1, pa.2) else pa) sh ru to ∧ Fr33 σ σ') := by
  refine cal_of_go (own := RX11) rfl (by decide +kernel) (Nat.le_of_ble_eq_true rfl) ?_
  obtain ⟨nx, hP⟩ := hC.2.2.2.2.2.2.1
  refine go_aload_n (i := 0) (pc := 0) dX11_undo_0 rfl rfl ?_
  refine go_getr2 fl_X11_62 (pc := 1) dX11_undo_1 (by first | rfl | (apply zL_ci <;> assumption) | (apply zR_ci <;> assumption)) (by first | rfl | (apply zL_in <;> first | assumption | decide) | (apply zR_in <;> first | assumption | decide)) (by first | rfl | (apply zL_fr0 <;> assumption) | (apply zL_fr1 <;> assumption) | (apply zR_fr0 <;> assumption) | (apply zR_fr1 <;> assumption) | (apply zR_fr2 <;> assumption) | (apply zR_fr3 <;> assumption)) ?_
  refine go_aload_n (i := 0) (pc := 4) dX11_undo_4 rfl rfl ?_
  refine go_getr2 fl_X11_49 (pc := 5) dX11_undo_5 (by first | rfl | (apply zL_ci <;> assumption) | (apply zR_ci <;> assumption)) (by first | rfl | (apply zL_in <;> first | assumption | decide) | (apply zR_in <;> first | assumption | decide)) (by first | rfl | (apply zL_fr0 <;> assumption) | (apply zL_fr1 <;> assumption) | (apply zR_fr0 <;> assumption) | (apply zR_fr1 <;> assumption) | (apply zR_fr2 <;> assumption) | (apply zR_fr3 <;> assumption)) ?_
  refine go_callV ml_X11_242 mt_X3_pop (pc := 8) dX11_undo_8 (c_X3_pop hP (k := 6) rfl (by decide)) (by first | rfl | (apply zL_cq <;> assumption) | (apply zR_cq <;> assumption)) rfl (by first | rfl | (apply zL_in <;> first | assumption | decide) | (apply zR_in <;> first | assumption | decide)) (by decide) (by decide) rfl rfl (Nat.le_of_ble_eq_true rfl) (fun r σ' hp => ?_)
  obtain ⟨rfl, hp⟩ := hp
  dsimp only [zRet]
  refine go_if_eq 24 (pc := 11) dX11_undo_11 (by decide) (fun h11 => ?_) (fun h11 => ?_)
  · first | rw [zb_0d] at h11 | rw [zn_eq0 (by omega)] at h11 | rw [zi_eq0] at h11
    rw [if_neg h11] at hp
    rw [hp, if_neg h11, if_neg h11, if_neg h11]
    clear hp σ'
    refine go_iconst (-1) (pc := 24) dX11_undo_24 (by decide) ?_
    refine go_ireturn (pc := 25) dX11_undo_25 rfl ?_
    exact ⟨rfl, hC, Fr33.rf⟩
  · first | rw [zb_0d] at h11 | rw [zn_eq0 (by omega)] at h11 | rw [zi_eq0] at h11
    have h11 : 0 < pa.1 := by omega
    rw [if_pos h11] at hp
    rw [if_pos h11, if_pos h11, if_pos h11]
    refine go_aload_n (i := 0) (pc := 14) dX11_undo_14 rfl rfl ?_
    refine go_getr2 fl_X11_62 (pc := 15) dX11_undo_15 (by first | rfl | (apply zL_ci <;> assumption) | (apply zR_ci <;> assumption)) (by first | rfl | (apply zL_in <;> first | assumption | decide) | (apply zR_in <;> first | assumption | decide)) (by first | rfl | (apply zL_fr0 <;> assumption) | (apply zL_fr1 <;> assumption) | (apply zR_fr0 <;> assumption) | (apply zR_fr1 <;> assumption) | (apply zR_fr2 <;> assumption) | (apply zR_fr3 <;> assumption)) ?_
    refine go_callV ml_X11_246 mt_X3_size (pc := 18) dX11_undo_18 (c_X3_size hp.1) (by first | rfl | (apply zL_cq <;> assumption) | (apply zR_cq <;> assumption)) rfl (by first | rfl | (apply zL_in <;> first | assumption | decide) | (apply zR_in <;> first | assumption | decide)) (by decide) (by decide) rfl rfl (Nat.le_of_ble_eq_true rfl) (fun r σ' hp => ?_)
    obtain ⟨rfl, hσ⟩ := hp
    rw [hσ]
    clear hσ σ'
    dsimp only [zRet]
    refine go_goto 25 (pc := 21) dX11_undo_21 (by decide) ?_
    refine go_ireturn (pc := 25) dX11_undo_25 rfl ?_
    exact ⟨rfl, hC.setLP (pa' := (pa.1 - 1, pa.2)) hp.2.2 hp.1 hp.2.1, Fr33.of hp.2.2 (by simp)⟩

def sKeep (sh : Nat × (Nat → Nat → Nat)) (i : Int32) (ρ : Nat → Nat) : Nat × (Nat → Nat → Nat) := if 0 ≤ i.toInt ∧ i.toInt < 3 then (sh.1 ||| 2 ^ i.toInt.toNat, fun j => if j = i.toInt.toNat then ρ else sh.2 j) else sh
abbrev kept (sh : Nat × (Nat → Nat → Nat)) (i : Int32) : Prop := 0 ≤ i.toInt ∧ i.toInt < 3 ∧ sh.1.testBit i.toInt.toNat = true

theorem c_X11_keep {E : zE} {σ : zT} {tx : Nat × (Nat → Nat)} {bd : Nat × (Nat → Nat) × (Nat → Nat)} {sk : Nat × (Nat → Nat)} {tw : Nat × (Nat → Nat) × (Nat → Nat)} {xs : List Nat} {ld : Nat × (Nat → Nat)} {pa sh : Nat × (Nat → Nat → Nat)} {ru : Nat × (Nat → Nat) × (Nat → Nat)} {to : Nat × (Nat → Int64)} {i : Int32} (hC : ClsIs σ tx bd sk tw xs ld pa sh ru to) : CalM E 3 yX11_keep cX11_keep 2 (some .boolean) [.ref (zA E 0 0), .int i] σ (fun r σ' => r = some (.int (zb (decide (0 ≤ i.toInt ∧ i.toInt < 3)))) ∧ ClsIs σ' tx bd sk tw xs ld pa (sKeep sh i ld.2) ru to ∧ Fr33 σ σ') := by
  refine cal_of_go (own := RX11) rfl (by decide +kernel) (Nat.le_of_ble_eq_true rfl) ?_
  have hSh := hC.2.2.2.2.2.2.2.1
  have hL := hC.2.2.2.2.2.1
  refine go_aload_n (i := 0) (pc := 0) dX11_keep_0 rfl rfl ?_
  refine go_getr2 fl_X11_69 (pc := 1) dX11_keep_1 (by first | rfl | (apply zL_ci <;> assumption) | (apply zR_ci <;> assumption)) (by first | rfl | (apply zL_in <;> first | assumption | decide) | (apply zR_in <;> first | assumption | decide)) (by first | rfl | (apply zL_fr0 <;> assumption) | (apply zL_fr1 <;> assumption) | (apply zR_fr0 <;> assumption) | (apply zR_fr1 <;> assumption) | (apply zR_fr2 <;> assumption) | (apply zR_fr3 <;> assumption)) ?_
  refine go_iload_n (i := 1) (pc := 4) dX11_keep_4 rfl rfl ?_
  refine go_aload_n (i := 0) (pc := 5) dX11_keep_5 rfl rfl ?_
  refine go_getr2 fl_X11_49 (pc := 6) dX11_keep_6 (by first | rfl | (apply zL_ci <;> assumption) | (apply zR_ci <;> assumption)) (by first | rfl | (apply zL_in <;> first | assumption | decide) | (apply zR_in <;> first | assumption | decide)) (by first | rfl | (apply zL_fr0 <;> assumption) | (apply zL_fr1 <;> assumption) | (apply zR_fr0 <;> assumption) | (apply zR_fr1 <;> assumption) | (apply zR_fr2 <;> assumption) | (apply zR_fr3 <;> assumption)) ?_
  refine go_callV ml_X11_413 mt_X6_put (pc := 9) dX11_keep_9 (c_X6_put hSh rfl hL) (by first | rfl | (apply zL_cq <;> assumption) | (apply zR_cq <;> assumption)) rfl (by first | rfl | (apply zL_in <;> first | assumption | decide) | (apply zR_in <;> first | assumption | decide)) (by decide) (by decide) rfl rfl (Nat.le_of_ble_eq_true rfl) (fun r σ' hp => ?_)
  obtain ⟨rfl, hp⟩ := hp
  dsimp only [zRet]
  refine go_zreturn (pc := 12) dX11_keep_12 rfl (by first | rfl | (apply zb_nar)) ?_
  refine ⟨rfl, ?_⟩
  unfold sKeep
  by_cases h : 0 ≤ i.toInt ∧ i.toInt < 3
  · rw [if_pos h] at hp ⊢
    exact ⟨hC.setSh (sh' := (_, _)) hp.2 hp.1, Fr33.of hp.2 (by decide)⟩
  · rw [if_neg h] at hp ⊢
    rw [hp]
    exact ⟨hC, Fr33.rf⟩

theorem c_X11_again {E : zE} {σ : zT} {tx : Nat × (Nat → Nat)} {bd : Nat × (Nat → Nat) × (Nat → Nat)} {sk : Nat × (Nat → Nat)} {tw : Nat × (Nat → Nat) × (Nat → Nat)} {xs : List Nat} {ld : Nat × (Nat → Nat)} {pa sh : Nat × (Nat → Nat → Nat)} {ru : Nat × (Nat → Nat) × (Nat → Nat)} {to : Nat × (Nat → Int64)} {i : Int32} (hC : ClsIs σ tx bd sk tw xs ld pa sh ru to) : CalM E 3 yX11_again cX11_again 2 (some .boolean) [.ref (zA E 0 0), .int i] σ (fun r σ' => r = some (.int (zb (decide (kept sh i)))) ∧ ClsIs σ' tx bd sk tw xs (if kept sh i then (ld.1, sh.2 i.toInt.toNat) else ld) (if kept sh i then (0, pa.2) else pa) sh ru to ∧ Fr33 σ σ') := by
  refine cal_of_go (own := RX11) rfl (by decide +kernel) (Nat.le_of_ble_eq_true rfl) ?_
  have hSh := hC.2.2.2.2.2.2.2.1
  refine go_aload_n (i := 0) (pc := 0) dX11_again_0 rfl rfl ?_
  refine go_getr2 fl_X11_69 (pc := 1) dX11_again_1 (by first | rfl | (apply zL_ci <;> assumption) | (apply zR_ci <;> assumption)) (by first | rfl | (apply zL_in <;> first | assumption | decide) | (apply zR_in <;> first | assumption | decide)) (by first | rfl | (apply zL_fr0 <;> assumption) | (apply zL_fr1 <;> assumption) | (apply zR_fr0 <;> assumption) | (apply zR_fr1 <;> assumption) | (apply zR_fr2 <;> assumption) | (apply zR_fr3 <;> assumption)) ?_
  refine go_iload_n (i := 1) (pc := 4) dX11_again_4 rfl rfl ?_
  refine go_aload_n (i := 0) (pc := 5) dX11_again_5 rfl rfl ?_
  refine go_getr2 fl_X11_49 (pc := 6) dX11_again_6 (by first | rfl | (apply zL_ci <;> assumption) | (apply zR_ci <;> assumption)) (by first | rfl | (apply zL_in <;> first | assumption | decide) | (apply zR_in <;> first | assumption | decide)) (by first | rfl | (apply zL_fr0 <;> assumption) | (apply zL_fr1 <;> assumption) | (apply zR_fr0 <;> assumption) | (apply zR_fr1 <;> assumption) | (apply zR_fr2 <;> assumption) | (apply zR_fr3 <;> assumption)) ?_
  refine go_callV ml_X11_417 mt_X6_take (pc := 9) dX11_again_9 (c_X6_take hSh (k := 6) rfl) (by first | rfl | (apply zL_cq <;> assumption) | (apply zR_cq <;> assumption)) rfl (by first | rfl | (apply zL_in <;> first | assumption | decide) | (apply zR_in <;> first | assumption | decide)) (by decide) (by decide) rfl rfl (Nat.le_of_ble_eq_true rfl) (fun r σ' hp => ?_)
  obtain ⟨rfl, hp⟩ := hp
  dsimp only [zRet]
  refine go_if_ne 17 (pc := 12) dX11_again_12 (by decide) (fun h12 => ?_) (fun h12 => ?_)
  · rw [zb_0d] at h12
    have hk : kept sh i := Decidable.not_not.mp h12
    rw [if_pos hk] at hp
    obtain ⟨hL2, hf⟩ := hp
    have hC2 := hC.setL hf hL2
    obtain ⟨nx, hP⟩ := hC2.2.2.2.2.2.2.1
    refine go_aload_n (i := 0) (pc := 17) dX11_again_17 rfl rfl ?_
    refine go_getr2 fl_X11_62 (pc := 18) dX11_again_18 (by first | rfl | (apply zL_ci <;> assumption) | (apply zR_ci <;> assumption)) (by first | rfl | (apply zL_in <;> first | assumption | decide) | (apply zR_in <;> first | assumption | decide)) (by first | rfl | (apply zL_fr0 <;> assumption) | (apply zL_fr1 <;> assumption) | (apply zR_fr0 <;> assumption) | (apply zR_fr1 <;> assumption) | (apply zR_fr2 <;> assumption) | (apply zR_fr3 <;> assumption)) ?_
    refine go_callV ml_X11_122 mt_X3_clear (pc := 21) dX11_again_21 (c_X3_clear hP) (by first | rfl | (apply zL_cq <;> assumption) | (apply zR_cq <;> assumption)) rfl (by first | rfl | (apply zL_in <;> first | assumption | decide) | (apply zR_in <;> first | assumption | decide)) (by decide) (by decide) rfl rfl (Nat.le_of_ble_eq_true rfl) (fun r σ' hp => ?_)
    obtain ⟨rfl, hP2, hf2⟩ := hp
    dsimp only [zRet]
    refine go_iconst (nI 1) (pc := 24) dX11_again_24 (by decide) ?_
    refine go_zreturn (pc := 25) dX11_again_25 rfl (by first | rfl | (apply zb_nar)) ?_
    rw [if_pos hk, if_pos hk]
    exact ⟨zr_t hk, hC2.setP (pa' := (0, pa.2)) (hf2.mono (by decide)) (hP2 pa.2), (Fr33.of hf (by simp)).tr (Fr33.of hf2 (by simp))⟩
  · rw [zb_0d] at h12
    have hk : ¬ kept sh i := h12
    rw [if_neg hk] at hp
    rw [hp]
    clear hp σ'
    refine go_iconst (nI 0) (pc := 15) dX11_again_15 (by decide) ?_
    refine go_zreturn (pc := 16) dX11_again_16 rfl rfl ?_
    rw [if_neg hk, if_neg hk]
    exact ⟨zr_f hk, hC, Fr33.rf⟩

abbrev hearOK (ru : Nat × (Nat → Nat) × (Nat → Nat)) (w v : Int32) : Prop := known w v ∧ ru.1 < 12
def sHear (ru : Nat × (Nat → Nat) × (Nat → Nat)) (w v : Int32) : Nat × (Nat → Nat) × (Nat → Nat) := if hearOK ru w v then (ru.1 + 1, va_up ru.2.1 ru.1 w.toInt.toNat, va_up ru.2.2 ru.1 v.toInt.toNat) else ru

theorem c_X11_heard {E : zE} {σ : zT} {tx : Nat × (Nat → Nat)} {bd : Nat × (Nat → Nat) × (Nat → Nat)} {sk : Nat × (Nat → Nat)} {tw : Nat × (Nat → Nat) × (Nat → Nat)} {xs : List Nat} {ld : Nat × (Nat → Nat)} {pa sh : Nat × (Nat → Nat → Nat)} {ru : Nat × (Nat → Nat) × (Nat → Nat)} {to : Nat × (Nat → Int64)} {w v : Int32} (hC : ClsIs σ tx bd sk tw xs ld pa sh ru to) : CalM E 2 yX11_heard cX11_heard 3 (some .int) [.ref (zA E 0 0), .int w, .int v] σ (fun r σ' => r = some (.int (if hearOK ru w v then nI (ru.1 + 1) else -1)) ∧ ClsIs σ' tx bd sk tw xs ld pa sh (sHear ru w v) to ∧ Fr33 σ σ') := by
  refine cal_of_go (own := RX11) rfl (by decide +kernel) (Nat.le_of_ble_eq_true rfl) ?_
  have hR := hC.2.2.2.2.2.2.2.2.1
  refine go_aload_n (i := 0) (pc := 0) dX11_heard_0 rfl rfl ?_
  refine go_getr2 fl_X11_76 (pc := 1) dX11_heard_1 (by first | rfl | (apply zL_ci <;> assumption) | (apply zR_ci <;> assumption)) (by first | rfl | (apply zL_in <;> first | assumption | decide) | (apply zR_in <;> first | assumption | decide)) (by first | rfl | (apply zL_fr0 <;> assumption) | (apply zL_fr1 <;> assumption) | (apply zR_fr0 <;> assumption) | (apply zR_fr1 <;> assumption) | (apply zR_fr2 <;> assumption) | (apply zR_fr3 <;> assumption)) ?_
  refine go_iload_n (i := 1) (pc := 4) dX11_heard_4 rfl rfl ?_
  refine go_iload_n (i := 2) (pc := 5) dX11_heard_5 rfl rfl ?_
  refine go_callV ml_X11_370 mt_X5_hear (pc := 6) dX11_heard_6 (c_X5_hear hR) (by first | rfl | (apply zL_cq <;> assumption) | (apply zR_cq <;> assumption)) rfl (by first | rfl | (apply zL_in <;> first | assumption | decide) | (apply zR_in <;> first | assumption | decide)) (by decide) (by decide) rfl rfl (Nat.le_of_ble_eq_true rfl) (fun r σ' hp => ?_)
  obtain ⟨rfl, hp⟩ := hp
  dsimp only [zRet]
  refine go_if_eq 22 (pc := 9) dX11_heard_9 (by decide) (fun h9 => ?_) (fun h9 => ?_)
  · rw [zb_0d] at h9
    have hk : ¬ hearOK ru w v := h9
    rw [if_neg hk] at hp
    rw [hp]
    clear hp σ'
    refine go_iconst (-1) (pc := 22) dX11_heard_22 (by decide) ?_
    refine go_ireturn (pc := 23) dX11_heard_23 rfl ?_
    unfold sHear
    rw [if_neg hk, if_neg hk]
    exact ⟨rfl, hC, Fr33.rf⟩
  · rw [zb_0d] at h9
    have hk : hearOK ru w v := Decidable.not_not.mp h9
    rw [if_pos hk] at hp
    refine go_aload_n (i := 0) (pc := 12) dX11_heard_12 rfl rfl ?_
    refine go_getr2 fl_X11_76 (pc := 13) dX11_heard_13 (by first | rfl | (apply zL_ci <;> assumption) | (apply zR_ci <;> assumption)) (by first | rfl | (apply zL_in <;> first | assumption | decide) | (apply zR_in <;> first | assumption | decide)) (by first | rfl | (apply zL_fr0 <;> assumption) | (apply zL_fr1 <;> assumption) | (apply zR_fr0 <;> assumption) | (apply zR_fr1 <;> assumption) | (apply zR_fr2 <;> assumption) | (apply zR_fr3 <;> assumption)) ?_
    refine go_callV ml_X11_374 mt_X5_size (pc := 16) dX11_heard_16 (c_X5_size hp.1) (by first | rfl | (apply zL_cq <;> assumption) | (apply zR_cq <;> assumption)) rfl (by first | rfl | (apply zL_in <;> first | assumption | decide) | (apply zR_in <;> first | assumption | decide)) (by decide) (by decide) rfl rfl (Nat.le_of_ble_eq_true rfl) (fun r σ' hp => ?_)
    obtain ⟨rfl, hσ⟩ := hp
    rw [hσ]
    clear hσ σ'
    dsimp only [zRet]
    refine go_goto 23 (pc := 19) dX11_heard_19 (by decide) ?_
    refine go_ireturn (pc := 23) dX11_heard_23 rfl ?_
    unfold sHear
    rw [if_pos hk, if_pos hk]
    exact ⟨rfl, hC.setRu (ru' := (_, _, _)) hp.2 hp.1, Fr33.of hp.2 (by simp)⟩

theorem c_X11_forget {E : zE} {σ : zT} {tx : Nat × (Nat → Nat)} {bd : Nat × (Nat → Nat) × (Nat → Nat)} {sk : Nat × (Nat → Nat)} {tw : Nat × (Nat → Nat) × (Nat → Nat)} {xs : List Nat} {ld : Nat × (Nat → Nat)} {pa sh : Nat × (Nat → Nat → Nat)} {ru : Nat × (Nat → Nat) × (Nat → Nat)} {to : Nat × (Nat → Int64)} (hC : ClsIs σ tx bd sk tw xs ld pa sh ru to) : CalM E 2 yX11_forget cX11_forget 2 (some .int) [.ref (zA E 0 0)] σ (fun r σ' => r = some (.int (nI ru.1)) ∧ ClsIs σ' tx bd sk tw xs ld pa sh (0, ru.2) to ∧ Fr33 σ σ') := by
  refine cal_of_go (own := RX11) rfl (by decide +kernel) (Nat.le_of_ble_eq_true rfl) ?_
  have hR := hC.2.2.2.2.2.2.2.2.1
  refine go_aload_n (i := 0) (pc := 0) dX11_forget_0 rfl rfl ?_
  refine go_getr2 fl_X11_76 (pc := 1) dX11_forget_1 (by first | rfl | (apply zL_ci <;> assumption) | (apply zR_ci <;> assumption)) (by first | rfl | (apply zL_in <;> first | assumption | decide) | (apply zR_in <;> first | assumption | decide)) (by first | rfl | (apply zL_fr0 <;> assumption) | (apply zL_fr1 <;> assumption) | (apply zR_fr0 <;> assumption) | (apply zR_fr1 <;> assumption) | (apply zR_fr2 <;> assumption) | (apply zR_fr3 <;> assumption)) ?_
  refine go_callV ml_X11_374 mt_X5_size (pc := 4) dX11_forget_4 (c_X5_size hR) (by first | rfl | (apply zL_cq <;> assumption) | (apply zR_cq <;> assumption)) rfl (by first | rfl | (apply zL_in <;> first | assumption | decide) | (apply zR_in <;> first | assumption | decide)) (by decide) (by decide) rfl rfl (Nat.le_of_ble_eq_true rfl) (fun r σ' hp => ?_)
  obtain ⟨rfl, hσ⟩ := hp
  rw [hσ]
  clear hσ σ'
  dsimp only [zRet]
  refine go_istore_n (i := 1) (pc := 7) dX11_forget_7 rfl (by decide) ?_
  refine go_aload_n (i := 0) (pc := 8) dX11_forget_8 rfl rfl ?_
  refine go_getr2 fl_X11_76 (pc := 9) dX11_forget_9 (by first | rfl | (apply zL_ci <;> assumption) | (apply zR_ci <;> assumption)) (by first | rfl | (apply zL_in <;> first | assumption | decide) | (apply zR_in <;> first | assumption | decide)) (by first | rfl | (apply zL_fr0 <;> assumption) | (apply zL_fr1 <;> assumption) | (apply zR_fr0 <;> assumption) | (apply zR_fr1 <;> assumption) | (apply zR_fr2 <;> assumption) | (apply zR_fr3 <;> assumption)) ?_
  refine go_callV ml_X11_375 mt_X5_clear (pc := 12) dX11_forget_12 (c_X5_clear) (by first | rfl | (apply zL_cq <;> assumption) | (apply zR_cq <;> assumption)) rfl (by first | rfl | (apply zL_in <;> first | assumption | decide) | (apply zR_in <;> first | assumption | decide)) (by decide) (by decide) rfl rfl (Nat.le_of_ble_eq_true rfl) (fun r σ' hp => ?_)
  obtain ⟨rfl, hR2, hf⟩ := hp
  dsimp only [zRet]
  refine go_iload_n (i := 1) (pc := 15) dX11_forget_15 rfl rfl ?_
  refine go_ireturn (pc := 16) dX11_forget_16 rfl ?_
  exact ⟨rfl, hC.setRu (ru' := (0, ru.2)) hf (hR2 _ _), Fr33.of hf (by simp)⟩

