section SP
variable {σ σ' : zT} {tx : Nat × (Nat → Nat)} {bd : Nat × (Nat → Nat) × (Nat → Nat)} {sk : Nat × (Nat → Nat)} {tw : Nat × (Nat → Nat) × (Nat → Nat)} {xs : List Nat} {ld : Nat × (Nat → Nat)} {pa sh : Nat × (Nat → Nat → Nat)} {ru : Nat × (Nat → Nat) × (Nat → Nat)} {to : Nat × (Nat → Int64)}
/-- the spare rule is scratch -/
theorem ClsIs.sp {S : List Nat} {kr : Nat} (h : ClsIs σ tx bd sk tw xs ld pa sh ru to) (hk : σ.2.2.2 14 = kr) (hf : FrG S σ σ') (hS : ∀ a ∈ S, a = 0 ∨ a = 5 ∨ a = 7 ∨ a = 8 ∨ a = 63 - kr) : ClsIs σ' tx bd sk tw xs ld pa sh ru to := by
  obtain ⟨⟨kr2, k1, k2, k3, k4⟩, h2, h3, h4, h5, h6, ⟨nx, h7⟩, h8, h9, h10⟩ := h
  have e : kr2 = kr := k2.symm.trans hk
  subst e
  have hkk := zR_cases k1
  have no : ∀ a, a ≠ 0 → a ≠ 5 → a ≠ 7 → a ≠ 8 → a ≠ 63 - kr2 → a ∉ S := fun a q1 q2 q3 q4 q6 q5 => by have := hS a q5; omega
  refine ⟨⟨kr2, k1, by rw [hf.2]; exact k2, by rw [hf.2]; exact k3, k4.fr hf (no _ (by omega) (by omega) (by omega) (by omega) (by omega))⟩, h2.fr hf (no _ (by decide) (by decide) (by decide) (by decide) (by omega)), h3.fr hf (no _ (by decide) (by decide) (by decide) (by decide) (by omega)), h4.fr hf (no _ (by decide) (by decide) (by decide) (by decide) (by omega)), h5.fr hf (no _ (by decide) (by decide) (by decide) (by decide) (by omega)), h6.fr hf (no _ (by decide) (by decide) (by decide) (by decide) (by omega)), ⟨nx, h7.fr hf (fun a ha => no a ?_ ?_ ?_ ?_ ?_)⟩, h8.fr hf (fun a ha => no a ?_ ?_ ?_ ?_ ?_), h9.fr hf (no _ (by decide) (by decide) (by decide) (by decide) (by omega)), h10.fr hf (no _ (by decide) (by decide) (by decide) (by decide) (by omega))⟩
  all_goals (first | (simp only [pastS, List.mem_cons, List.not_mem_nil, or_false] at ha; omega) | (simp only [shelfS, List.mem_cons, List.not_mem_nil, or_false] at ha; omega))
theorem ClsIs.swap {kr : Nat} {ys : List Nat} (h : ClsIs σ tx bd sk tw xs ld pa sh ru to) (hk : zRl kr = true) (hR : RuleIs σ (63 - kr) ys) : ClsIs (uR (uR σ 14 (63 - kr)) 15 kr) tx bd sk tw ys ld pa sh ru to := by
  obtain ⟨-, h2, h3, h4, h5, h6, h7, h8, h9, h10⟩ := h
  have hkk := zR_cases hk
  refine ⟨⟨63 - kr, ?_, rfl, ?_, hR⟩, h2, h3, h4, h5, h6, h7, h8, h9, h10⟩
  · rcases hkk with h | h <;> (subst h; rfl)
  · show kr = 63 - (63 - kr)
    omega
end SP
theorem rd_ref (L : Nat) (f : Nat → Nat) : ∃ b q n2 o, rP f (min L 40) 164 0 0 0 = some (b, q, n2, o) ∧ rG (min L 40) 0 0 0 b q n2 o ∧ mq0 L f = if b = true ∧ q = min L 40 then (1, 0, o) else (0, q, []) := by
  obtain ⟨b, q, n2, o, e, g⟩ := rP_tot (f := f) (lim := min L 40) 164 0 0 0 (by decide) (by decide) (Nat.zero_le _) (by omega)
  exact ⟨b, q, n2, o, e, g, rP_mQ (by omega) e⟩
theorem rdF_le {L q : Nat} {f : Nat → Nat} (h : rdF L (mq0 L f) = some q) : q ≤ 40 := by
  obtain ⟨b, q1, n2, o, e, g, hm⟩ := rd_ref L f
  have g2 := g.2.1
  unfold rdF at h
  split at h
  · cases h
  · have h := Option.some.inj h
    split at h
    · omega
    · rw [hm] at h
      split at h
      · rename_i hx hy
        rw [hm, if_pos hy] at hx
        exact absurd rfl hx
      · have h : q1 = q := h
        omega
theorem usu_ok : dpL usual 0 = some 1 ∧ usual.length ≤ 40 ∧ ∀ t ∈ usual, tokOK t := by
  refine ⟨rfl, by decide, fun t ht => ?_⟩
  simp only [usual, List.mem_cons, List.not_mem_nil, or_false] at ht
  unfold tokOK
  omega
theorem rd_ok {L : Nat} {f : Nat → Nat} (h : rdF L (mq0 L f) = none) : dpL (rdX L (mq0 L f)) 0 = some 1 ∧ (rdX L (mq0 L f)).length ≤ 40 ∧ ∀ t ∈ rdX L (mq0 L f), tokOK t := by
  by_cases h0 : L = 0
  · unfold rdX
    rw [if_pos h0]
    exact usu_ok
  · obtain ⟨b, q1, n2, o, e, g, hm⟩ := rd_ref L f
    unfold rdX
    rw [if_neg h0, hm]
    unfold rdF at h
    split at h
    · rename_i hx
      rcases hx with hx | hx
      · exact absurd hx h0
      · have hx2 := hx.2
        rw [hm] at hx2
        split at hx2
        · rename_i hb
          have g7 := g.2.2.2.2.2.2 hb.1
          have g3 := g.2.2.1
          rw [if_pos hb]
          exact ⟨(g7.2.1 (by decide)).2 0, by show o.length ≤ 40; omega, g.2.2.2.2.2.1⟩
        · exact absurd hx2 (fun h => absurd (show (0 : Nat) = 1 from h) (by decide))
    · cases h
theorem rd_rule {σ : zT} {k L : Nat} {f : Nat → Nat} (h : rdF L (mq0 L f) = none) (hs : StpIs σ k (rdX L (mq0 L f))) : RuleIs σ k (rdX L (mq0 L f)) := by
  have ho := rd_ok h
  exact ⟨ho.1, ho.2.1, hs.1, fun j t hj => ⟨hs.2 j t hj, ho.2.2 t (List.mem_of_getElem? hj)⟩⟩
theorem nI_m1 {q : Nat} (h : q ≤ 40) : nI q ≠ -1 := (by decide : ∀ q : Nat, q ≤ 40 → nI q ≠ -1) q h

theorem c_X11_rule {E : zE} {σ : zT} {tx : Nat × (Nat → Nat)} {bd : Nat × (Nat → Nat) × (Nat → Nat)} {sk : Nat × (Nat → Nat)} {tw : Nat × (Nat → Nat) × (Nat → Nat)} {xs : List Nat} {ld : Nat × (Nat → Nat)} {pa sh : Nat × (Nat → Nat → Nat)} {ru : Nat × (Nat → Nat) × (Nat → Nat)} {to : Nat × (Nat → Int64)} (hC : ClsIs σ tx bd sk tw xs ld pa sh ru to) : CalM E 4 yX11_rule cX11_rule 3 (some .int) [.ref (zA E 0 0)] σ (fun r σ' => r = some (.int (match (rdF tx.1 (mq0 tx.1 tx.2)) with | none => nI 0 | some q => mF q)) ∧ ClsIs σ' (0, tx.2) bd sk tw (match (rdF tx.1 (mq0 tx.1 tx.2)) with | none => (rdX tx.1 (mq0 tx.1 tx.2)) | some _ => xs) ld pa sh ru to ∧ Fr33 σ σ') := by
  refine cal_of_go (own := RX11) rfl (by decide +kernel) (Nat.le_of_ble_eq_true rfl) ?_
  obtain ⟨kr, k1, k2, k3, k4⟩ := hC.1
  have hkk := zR_cases k1
  have hks : zRl (63 - kr) = true := by rcases hkk with h | h <;> (subst h; rfl)
  have hkn : 63 - kr ≠ 1 ∧ 63 - kr < 33 := by omega
  refine go_aload_n (i := 0) (pc := 0) dX11_rule_0 rfl rfl ?_
  refine go_getR fl_X11_101 (pc := 1) dX11_rule_1 rfl ?_
  rw [k3]
  refine go_aload_n (i := 0) (pc := 4) dX11_rule_4 rfl rfl ?_
  refine go_getr2 fl_X11_10 (pc := 5) dX11_rule_5 (by first | rfl | (apply zL_ci <;> assumption) | (apply zR_ci <;> assumption)) (by first | rfl | (apply zL_in <;> first | assumption | decide) | (apply zR_in <;> first | assumption | decide)) (by first | rfl | (apply zL_fr0 <;> assumption) | (apply zL_fr1 <;> assumption) | (apply zR_fr0 <;> assumption) | (apply zR_fr1 <;> assumption) | (apply zR_fr2 <;> assumption) | (apply zR_fr3 <;> assumption)) ?_
  refine go_callV ml_X11_143 mt_X4_read (pc := 8) dX11_rule_8 (c_X4_read hks hC.2.1) (by first | rfl | (apply zL_cq <;> assumption) | (apply zR_cq <;> assumption)) rfl (by first | rfl | (apply zL_in <;> first | assumption | decide) | (apply zR_in <;> first | assumption | decide)) (by decide) (by decide) rfl rfl (Nat.le_of_ble_eq_true rfl) (fun r σ' hp => ?_)
  obtain ⟨rfl, hS1, hF1⟩ := hp
  dsimp only [zRet]
  have hC1 := hC.sp k2 hF1 (fun a ha => Or.inr (Or.inr (Or.inr (Or.inr (List.mem_singleton.mp ha)))))
  refine go_istore_n (i := 1) (pc := 11) dX11_rule_11 rfl (by decide) ?_
  refine go_aload_n (i := 0) (pc := 12) dX11_rule_12 rfl rfl ?_
  refine go_getr2 fl_X11_10 (pc := 13) dX11_rule_13 (by first | rfl | (apply zL_ci <;> assumption) | (apply zR_ci <;> assumption)) (by first | rfl | (apply zL_in <;> first | assumption | decide) | (apply zR_in <;> first | assumption | decide)) (by first | rfl | (apply zL_fr0 <;> assumption) | (apply zL_fr1 <;> assumption) | (apply zR_fr0 <;> assumption) | (apply zR_fr1 <;> assumption) | (apply zR_fr2 <;> assumption) | (apply zR_fr3 <;> assumption)) ?_
  refine go_callV ml_X11_126 mt_X8_clear (pc := 16) dX11_rule_16 (c_X8_clear) (by first | rfl | (apply zL_cq <;> assumption) | (apply zR_cq <;> assumption)) rfl (by first | rfl | (apply zL_in <;> first | assumption | decide) | (apply zR_in <;> first | assumption | decide)) (by decide) (by decide) rfl rfl (Nat.le_of_ble_eq_true rfl) (fun r σ' hp => ?_)
  obtain ⟨rfl, rfl⟩ := hp
  dsimp only [zRet]
  have hC2 := hC1.noT
  have hfa : FrG [63 - kr, 1] σ (uS σ' 1 1 (nI 0)) := (hF1.mono (by simp)).uS (by simp)
  have hF3 : Fr33 σ (uS σ' 1 1 (nI 0)) := Fr33.of hfa (by intro a ha; simp only [List.mem_cons, List.not_mem_nil, or_false] at ha; omega)
  unfold rdA
  cases hE : (rdF tx.1 (mq0 tx.1 tx.2)) with
  | none =>
    dsimp only
    have hRu := (rd_rule hE (hS1 hE)).fr (FrG.rf.uS (S := [1]) (k := 1) (f := 1) (v := nI 0) (by simp)) (by simp only [List.mem_singleton]; omega)
    refine go_iload_n (i := 1) (pc := 19) dX11_rule_19 rfl rfl ?_
    refine go_iconst (-1) (pc := 20) dX11_rule_20 (by decide) ?_
    refine go_icmp_eq 28 (pc := 21) dX11_rule_21 (by decide) (fun h21 => ?_) (fun h21 => ?_)
    · refine go_aload_n (i := 0) (pc := 28) dX11_rule_28 rfl rfl ?_
      refine go_getR fl_X11_97 (pc := 29) dX11_rule_29 rfl ?_
      rw [show (uS σ' 1 1 (nI 0)).2.2.2 14 = kr from (hF1.2 ▸ k2 : σ'.2.2.2 14 = kr)]
      refine go_astore_n (i := 2) (pc := 32) dX11_rule_32 rfl (by decide) ?_
      refine go_aload_n (i := 0) (pc := 33) dX11_rule_33 rfl rfl ?_
      refine go_aload_n (i := 0) (pc := 34) dX11_rule_34 rfl rfl ?_
      refine go_getR fl_X11_101 (pc := 35) dX11_rule_35 rfl ?_
      rw [show (uS σ' 1 1 (nI 0)).2.2.2 15 = 63 - kr from (hF1.2 ▸ k3 : σ'.2.2.2 15 = 63 - kr)]
      refine go_putR fp_X11_97 (pc := 38) dX11_rule_38 rfl (fun _ => ⟨rfl, rfl⟩) ?_
      refine go_aload_n (i := 0) (pc := 41) dX11_rule_41 rfl rfl ?_
      refine go_aload_n (i := 2) (pc := 42) dX11_rule_42 rfl rfl ?_
      refine go_putR fp_X11_101 (pc := 43) dX11_rule_43 rfl (fun _ => ⟨rfl, rfl⟩) ?_
      refine go_iconst (nI 0) (pc := 46) dX11_rule_46 (by decide) ?_
      refine go_ireturn (pc := 47) dX11_rule_47 rfl ?_
      exact ⟨rfl, hC2.swap k1 hRu, fun a ha => hF3 a ha⟩
    · exact absurd rfl h21
  | some q =>
    dsimp only
    have hq := rdF_le hE
    refine go_iload_n (i := 1) (pc := 19) dX11_rule_19 rfl rfl ?_
    refine go_iconst (-1) (pc := 20) dX11_rule_20 (by decide) ?_
    refine go_icmp_eq 28 (pc := 21) dX11_rule_21 (by decide) (fun h21 => ?_) (fun h21 => ?_)
    · exact absurd h21 (nI_m1 hq)
    · refine go_iconst (-1) (pc := 24) dX11_rule_24 (by decide) ?_
      refine go_iload_n (i := 1) (pc := 25) dX11_rule_25 rfl rfl ?_
      refine go_isub (pc := 26) dX11_rule_26 ?_
      refine go_ireturn (pc := 27) dX11_rule_27 rfl ?_
      exact ⟨rfl, hC2, hF3⟩

theorem c_X11_law {E : zE} {σ : zT} {tx : Nat × (Nat → Nat)} {bd : Nat × (Nat → Nat) × (Nat → Nat)} {sk : Nat × (Nat → Nat)} {tw : Nat × (Nat → Nat) × (Nat → Nat)} {xs : List Nat} {ld : Nat × (Nat → Nat)} {pa sh : Nat × (Nat → Nat → Nat)} {ru : Nat × (Nat → Nat) × (Nat → Nat)} {to : Nat × (Nat → Int64)} (hC : ClsIs σ tx bd sk tw xs ld pa sh ru to) (hro : Roomy ld.2) : CalM E 7 yX11_law cX11_law 4 (some .int) [.ref (zA E 0 0)] σ (fun r σ' => r = some (.int (match (rdF tx.1 (mq0 tx.1 tx.2)) with | none => nI (wks (vOf bd sk (rdX tx.1 (mq0 tx.1 tx.2)) ld.1) ld.2 10).2.2.1 - nI (wks (vOf bd sk xs ld.1) ld.2 10).2.2.1 | some q => -10000 - nI q)) ∧ ClsIs σ' (0, tx.2) bd sk tw xs ld pa sh ru (match (rdF tx.1 (mq0 tx.1 tx.2)) with | none => (2, ln2 (lN (wks (vOf bd sk (rdX tx.1 (mq0 tx.1 tx.2)) ld.1) ld.2 10).2.2.1) (lN (wks (vOf bd sk xs ld.1) ld.2 10).2.2.1)) | some _ => to) ∧ Fr33 σ σ') := by
  refine cal_of_go (own := RX11) rfl (by decide +kernel) (Nat.le_of_ble_eq_true rfl) ?_
  obtain ⟨kr, k1, k2, k3, k4⟩ := hC.1
  have hkk := zR_cases k1
  have hks : zRl (63 - kr) = true := by rcases hkk with h | h <;> (subst h; rfl)
  have hkn : 63 - kr ≠ 1 ∧ 63 - kr < 33 := by omega
  have hok := hC.2.2.2.2.2.1.1
  have hro1 := hro.1
  have hro2 := hro.2
  refine go_aload_n (i := 0) (pc := 0) dX11_law_0 rfl rfl ?_
  refine go_getR fl_X11_101 (pc := 1) dX11_law_1 rfl ?_
  rw [k3]
  refine go_aload_n (i := 0) (pc := 4) dX11_law_4 rfl rfl ?_
  refine go_getr2 fl_X11_10 (pc := 5) dX11_law_5 (by first | rfl | (apply zL_ci <;> assumption) | (apply zR_ci <;> assumption)) (by first | rfl | (apply zL_in <;> first | assumption | decide) | (apply zR_in <;> first | assumption | decide)) (by first | rfl | (apply zL_fr0 <;> assumption) | (apply zL_fr1 <;> assumption) | (apply zR_fr0 <;> assumption) | (apply zR_fr1 <;> assumption) | (apply zR_fr2 <;> assumption) | (apply zR_fr3 <;> assumption)) ?_
  refine go_callV ml_X11_143 mt_X4_read (pc := 8) dX11_law_8 (c_X4_read hks hC.2.1) (by first | rfl | (apply zL_cq <;> assumption) | (apply zR_cq <;> assumption)) rfl (by first | rfl | (apply zL_in <;> first | assumption | decide) | (apply zR_in <;> first | assumption | decide)) (by decide) (by decide) rfl rfl (Nat.le_of_ble_eq_true rfl) (fun r σ' hp => ?_)
  obtain ⟨rfl, hS1, hF1⟩ := hp
  dsimp only [zRet]
  have hC1 := hC.sp k2 hF1 (fun a ha => Or.inr (Or.inr (Or.inr (Or.inr (List.mem_singleton.mp ha)))))
  refine go_istore_n (i := 1) (pc := 11) dX11_law_11 rfl (by decide) ?_
  refine go_aload_n (i := 0) (pc := 12) dX11_law_12 rfl rfl ?_
  refine go_getr2 fl_X11_10 (pc := 13) dX11_law_13 (by first | rfl | (apply zL_ci <;> assumption) | (apply zR_ci <;> assumption)) (by first | rfl | (apply zL_in <;> first | assumption | decide) | (apply zR_in <;> first | assumption | decide)) (by first | rfl | (apply zL_fr0 <;> assumption) | (apply zL_fr1 <;> assumption) | (apply zR_fr0 <;> assumption) | (apply zR_fr1 <;> assumption) | (apply zR_fr2 <;> assumption) | (apply zR_fr3 <;> assumption)) ?_
  refine go_callV ml_X11_126 mt_X8_clear (pc := 16) dX11_law_16 (c_X8_clear) (by first | rfl | (apply zL_cq <;> assumption) | (apply zR_cq <;> assumption)) rfl (by first | rfl | (apply zL_in <;> first | assumption | decide) | (apply zR_in <;> first | assumption | decide)) (by decide) (by decide) rfl rfl (Nat.le_of_ble_eq_true rfl) (fun r σ' hp => ?_)
  obtain ⟨rfl, rfl⟩ := hp
  dsimp only [zRet]
  have hC2 := hC1.noT
  have hfa : FrG [63 - kr, 1] σ (uS σ' 1 1 (nI 0)) := (hF1.mono (by simp)).uS (by simp)
  have hF3 : Fr33 σ (uS σ' 1 1 (nI 0)) := Fr33.of hfa (by intro a ha; simp only [List.mem_cons, List.not_mem_nil, or_false] at ha; omega)
  unfold rdA
  cases hE : (rdF tx.1 (mq0 tx.1 tx.2)) with
  | none =>
    dsimp only
    have hRu := (rd_rule hE (hS1 hE)).fr (FrG.rf.uS (S := [1]) (k := 1) (f := 1) (v := nI 0) (by simp)) (by simp only [List.mem_singleton]; omega)
    refine go_iload_n (i := 1) (pc := 19) dX11_law_19 rfl rfl ?_
    refine go_iconst (-1) (pc := 20) dX11_law_20 (by decide) ?_
    refine go_icmp_eq 30 (pc := 21) dX11_law_21 (by decide) (fun h21 => ?_) (fun h21 => ?_)
    · have k2b : (uS σ' 1 1 (nI 0)).2.2.2 14 = kr := (hF1.2 ▸ k2 : σ'.2.2.2 14 = kr)
      have k3b : (uS σ' 1 1 (nI 0)).2.2.2 15 = 63 - kr := (hF1.2 ▸ k3 : σ'.2.2.2 15 = 63 - kr)
      generalize uS σ' 1 1 (nI 0) = τ1 at hC2 hfa hF3 hRu k2b k3b ⊢
      refine go_aload_n (i := 0) (pc := 30) dX11_law_30 rfl rfl ?_
      refine go_getr2 fl_X11_53 (pc := 31) dX11_law_31 (by first | rfl | (apply zL_ci <;> assumption) | (apply zR_ci <;> assumption)) (by first | rfl | (apply zL_in <;> first | assumption | decide) | (apply zR_in <;> first | assumption | decide)) (by first | rfl | (apply zL_fr0 <;> assumption) | (apply zL_fr1 <;> assumption) | (apply zR_fr0 <;> assumption) | (apply zR_fr1 <;> assumption) | (apply zR_fr2 <;> assumption) | (apply zR_fr3 <;> assumption)) ?_
      refine go_aload_n (i := 0) (pc := 34) dX11_law_34 rfl rfl ?_
      refine go_getr2 fl_X11_49 (pc := 35) dX11_law_35 (by first | rfl | (apply zL_ci <;> assumption) | (apply zR_ci <;> assumption)) (by first | rfl | (apply zL_in <;> first | assumption | decide) | (apply zR_in <;> first | assumption | decide)) (by first | rfl | (apply zL_fr0 <;> assumption) | (apply zL_fr1 <;> assumption) | (apply zR_fr0 <;> assumption) | (apply zR_fr1 <;> assumption) | (apply zR_fr2 <;> assumption) | (apply zR_fr3 <;> assumption)) ?_
      refine go_callV ml_X11_198 mt_X2_copyFrom (pc := 38) dX11_law_38 (c_X2_copyFrom rfl rfl hC2.2.2.2.2.2.1) (by first | rfl | (apply zL_cq <;> assumption) | (apply zR_cq <;> assumption)) rfl (by first | rfl | (apply zL_in <;> first | assumption | decide) | (apply zR_in <;> first | assumption | decide)) (by decide) (by decide) rfl rfl (Nat.le_of_ble_eq_true rfl) (fun r σ' hp => ?_)
      obtain ⟨rfl, hL7, hf7⟩ := hp
      dsimp only [zRet]
      have k3c : σ'.2.2.2 15 = 63 - kr := by rw [hf7.2]; exact k3b
      have hC3 := hC2.fr hf7 (by simp)
      have hRu3 := hRu.fr hf7 (by simp only [List.mem_singleton]; omega)
      have hWs : WIs _ (63 - kr) 7 (vOf bd sk (rdX tx.1 (mq0 tx.1 tx.2)) ld.1) ld.2 := ⟨⟨hks, rfl⟩, ⟨_, rfl, hRu3⟩, hC3.2.2.1, hC3.2.2.2.1, hL7⟩
      refine go_aload_n (i := 0) (pc := 41) dX11_law_41 rfl rfl ?_
      refine go_getr2 fl_X11_42 (pc := 42) dX11_law_42 (by first | rfl | (apply zL_ci <;> assumption) | (apply zR_ci <;> assumption)) (by first | rfl | (apply zL_in <;> first | assumption | decide) | (apply zR_in <;> first | assumption | decide)) (by first | rfl | (apply zL_fr0 <;> assumption) | (apply zL_fr1 <;> assumption) | (apply zR_fr0 <;> assumption) | (apply zR_fr1 <;> assumption) | (apply zR_fr2 <;> assumption) | (apply zR_fr3 <;> assumption)) ?_
      refine go_aload_n (i := 0) (pc := 45) dX11_law_45 rfl rfl ?_
      refine go_getR fl_X11_101 (pc := 46) dX11_law_46 rfl ?_
      rw [k3c]
      refine go_aload_n (i := 0) (pc := 49) dX11_law_49 rfl rfl ?_
      refine go_getr2 fl_X11_53 (pc := 50) dX11_law_50 (by first | rfl | (apply zL_ci <;> assumption) | (apply zR_ci <;> assumption)) (by first | rfl | (apply zL_in <;> first | assumption | decide) | (apply zR_in <;> first | assumption | decide)) (by first | rfl | (apply zL_fr0 <;> assumption) | (apply zL_fr1 <;> assumption) | (apply zR_fr0 <;> assumption) | (apply zR_fr1 <;> assumption) | (apply zR_fr2 <;> assumption) | (apply zR_fr3 <;> assumption)) ?_
      refine go_bipush (nI 10) (pc := 53) dX11_law_53 (by decide) ?_
      refine go_callV ml_X11_217 mt_X1_pass (pc := 55) dX11_law_55 (c_X1_pass hWs (by omega) (by omega)) (by first | rfl | (apply zL_cq <;> assumption) | (apply zR_cq <;> assumption)) rfl (by first | rfl | (apply zL_in <;> first | assumption | decide) | (apply zR_in <;> first | assumption | decide)) (by decide) (by decide) rfl rfl (Nat.le_of_ble_eq_true rfl) (fun r σ' hp => ?_)
      obtain ⟨rfl, -, -, -, -, hf8⟩ := hp
      dsimp only [zRet]
      have k2c : σ'.2.2.2 14 = kr := by rw [hf8.2, hf7.2]; exact k2b
      have hC4 := hC3.sp (kr := kr) (by rw [hf7.2]; exact k2b) hf8 (by intro a ha; simp only [List.mem_cons, List.not_mem_nil, or_false] at ha; omega)
      refine go_istore_n (i := 2) (pc := 58) dX11_law_58 rfl (by decide) ?_
      refine go_aload_n (i := 0) (pc := 59) dX11_law_59 rfl rfl ?_
      refine go_getr2 fl_X11_53 (pc := 60) dX11_law_60 (by first | rfl | (apply zL_ci <;> assumption) | (apply zR_ci <;> assumption)) (by first | rfl | (apply zL_in <;> first | assumption | decide) | (apply zR_in <;> first | assumption | decide)) (by first | rfl | (apply zL_fr0 <;> assumption) | (apply zL_fr1 <;> assumption) | (apply zR_fr0 <;> assumption) | (apply zR_fr1 <;> assumption) | (apply zR_fr2 <;> assumption) | (apply zR_fr3 <;> assumption)) ?_
      refine go_aload_n (i := 0) (pc := 63) dX11_law_63 rfl rfl ?_
      refine go_getr2 fl_X11_49 (pc := 64) dX11_law_64 (by first | rfl | (apply zL_ci <;> assumption) | (apply zR_ci <;> assumption)) (by first | rfl | (apply zL_in <;> first | assumption | decide) | (apply zR_in <;> first | assumption | decide)) (by first | rfl | (apply zL_fr0 <;> assumption) | (apply zL_fr1 <;> assumption) | (apply zR_fr0 <;> assumption) | (apply zR_fr1 <;> assumption) | (apply zR_fr2 <;> assumption) | (apply zR_fr3 <;> assumption)) ?_
      refine go_callV ml_X11_198 mt_X2_copyFrom (pc := 67) dX11_law_67 (c_X2_copyFrom rfl rfl hC4.2.2.2.2.2.1) (by first | rfl | (apply zL_cq <;> assumption) | (apply zR_cq <;> assumption)) rfl (by first | rfl | (apply zL_in <;> first | assumption | decide) | (apply zR_in <;> first | assumption | decide)) (by decide) (by decide) rfl rfl (Nat.le_of_ble_eq_true rfl) (fun r σ' hp => ?_)
      obtain ⟨rfl, hL9, hf9⟩ := hp
      dsimp only [zRet]
      have hC5 := hC4.fr hf9 (by simp)
      obtain ⟨kr2, hz, hz2, hR14, hW⟩ := hC5.w (kl := 7) rfl hL9
      have k2d : kr2 = kr := by rw [← hR14, hf9.2]; exact k2c
      subst k2d
      refine go_aload_n (i := 0) (pc := 70) dX11_law_70 rfl rfl ?_
      refine go_getr2 fl_X11_42 (pc := 71) dX11_law_71 (by first | rfl | (apply zL_ci <;> assumption) | (apply zR_ci <;> assumption)) (by first | rfl | (apply zL_in <;> first | assumption | decide) | (apply zR_in <;> first | assumption | decide)) (by first | rfl | (apply zL_fr0 <;> assumption) | (apply zL_fr1 <;> assumption) | (apply zR_fr0 <;> assumption) | (apply zR_fr1 <;> assumption) | (apply zR_fr2 <;> assumption) | (apply zR_fr3 <;> assumption)) ?_
      refine go_aload_n (i := 0) (pc := 74) dX11_law_74 rfl rfl ?_
      refine go_getR fl_X11_97 (pc := 75) dX11_law_75 rfl ?_
      rw [hR14]
      refine go_aload_n (i := 0) (pc := 78) dX11_law_78 rfl rfl ?_
      refine go_getr2 fl_X11_53 (pc := 79) dX11_law_79 (by first | rfl | (apply zL_ci <;> assumption) | (apply zR_ci <;> assumption)) (by first | rfl | (apply zL_in <;> first | assumption | decide) | (apply zR_in <;> first | assumption | decide)) (by first | rfl | (apply zL_fr0 <;> assumption) | (apply zL_fr1 <;> assumption) | (apply zR_fr0 <;> assumption) | (apply zR_fr1 <;> assumption) | (apply zR_fr2 <;> assumption) | (apply zR_fr3 <;> assumption)) ?_
      refine go_bipush (nI 10) (pc := 82) dX11_law_82 (by decide) ?_
      refine go_callV ml_X11_217 mt_X1_pass (pc := 84) dX11_law_84 (c_X1_pass hW (by omega) (by omega)) (by first | rfl | (apply zL_cq <;> assumption) | (apply zR_cq <;> assumption)) rfl (by first | rfl | (apply zL_in <;> first | assumption | decide) | (apply zR_in <;> first | assumption | decide)) (by decide) (by decide) rfl rfl (Nat.le_of_ble_eq_true rfl) (fun r σ' hp => ?_)
      obtain ⟨rfl, -, -, -, hW2, hf10⟩ := hp
      dsimp only [zRet]
      have hC6 := hC5.try hz2 hR14 (Or.inl rfl) hf10 rfl hW2
      refine go_istore_n (i := 3) (pc := 87) dX11_law_87 rfl (by decide) ?_
      refine go_aload_n (i := 0) (pc := 88) dX11_law_88 rfl rfl ?_
      refine go_getr2 fl_X11_83 (pc := 89) dX11_law_89 (by first | rfl | (apply zL_ci <;> assumption) | (apply zR_ci <;> assumption)) (by first | rfl | (apply zL_in <;> first | assumption | decide) | (apply zR_in <;> first | assumption | decide)) (by first | rfl | (apply zL_fr0 <;> assumption) | (apply zL_fr1 <;> assumption) | (apply zR_fr0 <;> assumption) | (apply zR_fr1 <;> assumption) | (apply zR_fr2 <;> assumption) | (apply zR_fr3 <;> assumption)) ?_
      refine go_iload_n (i := 2) (pc := 92) dX11_law_92 rfl rfl ?_
      refine go_i2l (pc := 93) dX11_law_93 ?_
      rw [nI_l (by have := (wks_ok hWs.vok hok 10 (by omega) (by omega)).2.2.2.1; omega)]
      refine go_iload_n (i := 3) (pc := 94) dX11_law_94 rfl rfl ?_
      refine go_i2l (pc := 95) dX11_law_95 ?_
      rw [nI_l (by have := (wks_ok hW.vok hok 10 (by omega) (by omega)).2.2.2.1; omega)]
      refine go_callV ml_X11_223 mt_X9_two (pc := 96) dX11_law_96 (c_X9_two) (by first | rfl | (apply zL_cq <;> assumption) | (apply zR_cq <;> assumption)) rfl (by first | rfl | (apply zL_in <;> first | assumption | decide) | (apply zR_in <;> first | assumption | decide)) (by decide) (by decide) rfl rfl (Nat.le_of_ble_eq_true rfl) (fun r σ' hp => ?_)
      obtain ⟨rfl, hT4, hf4⟩ := hp
      dsimp only [zRet]
      refine go_iload_n (i := 2) (pc := 99) dX11_law_99 rfl rfl ?_
      refine go_iload_n (i := 3) (pc := 100) dX11_law_100 rfl rfl ?_
      refine go_isub (pc := 101) dX11_law_101 ?_
      refine go_ireturn (pc := 102) dX11_law_102 rfl ?_
      exact ⟨rfl, hC6.setTo (to' := (2, _)) hf4 hT4, ((((hF3.tr (Fr33.of hf7 (by simp))).tr (Fr33.of hf8 (by simp; omega))).tr (Fr33.of hf9 (by simp))).tr (Fr33.of hf10 (by simp; omega))).tr (Fr33.of hf4 (by simp))⟩
    · exact absurd rfl h21
  | some q =>
    dsimp only
    have hq := rdF_le hE
    refine go_iload_n (i := 1) (pc := 19) dX11_law_19 rfl rfl ?_
    refine go_iconst (-1) (pc := 20) dX11_law_20 (by decide) ?_
    refine go_icmp_eq 30 (pc := 21) dX11_law_21 (by decide) (fun h21 => ?_) (fun h21 => ?_)
    · exact absurd h21 (nI_m1 hq)
    · refine go_sipush (-10000) (pc := 24) dX11_law_24 (by decide) ?_
      refine go_iload_n (i := 1) (pc := 27) dX11_law_27 rfl rfl ?_
      refine go_isub (pc := 28) dX11_law_28 ?_
      refine go_ireturn (pc := 29) dX11_law_29 rfl ?_
      exact ⟨rfl, hC2, hF3⟩

