theorem fk_X4_31 : Cond.fieldLink RX4 31 "ThornHedge$Rule" "USUAL" "[I" ∈ zG := zg1 232 rfl rfl
section GoUsual
variable {E : zE} {d : Nat} {own : String} {cc : ByteArray} {nL : Nat} {ret : Option FieldType} {P : Option Value → zT → Prop} {σ : zT} {pc : Nat} {lv : List (Nat × Value)} {st : List Value}
theorem go_usu {idx : Nat} (hw : Cond.fieldLink own idx "ThornHedge$Rule" "USUAL" "[I" ∈ zG) (hd : decode cc pc = .ok (.getstatic idx, 3)) (k : GoM E d own cc nL ret P σ (pc + 3) lv (.ref (zU E) :: st)) : GoM E d own cc nL ret P σ pc lv st := by
  intro l p e s m args below meth c H locs ls C hls hP hS
  have hZ := C.2.2.2.2.2.2.2.2.2.2.2.2.2.1
  exact va_gets C.1 C.2.1 hZ hS C.2.2.2.2.2.1 (C.2.2.2.2.2.2.1 _ hw) (fun _ h => h) hd (k l p e s m args below meth c H locs ls C hls hP hS)
theorem go_ulen (hd : decode cc pc = .ok (.arraylength, 1)) (k : GoM E d own cc nL ret P σ (pc + 1) lv (.int (nI 7) :: st)) : GoM E d own cc nL ret P σ pc lv (.ref (zU E) :: st) := by
  intro l p e s m args below meth c H locs ls C hls hP hS
  have hZ := C.2.2.2.2.2.2.2.2.2.2.2.2.2.2.1
  exact va_tlen C.1 C.2.1 hZ hS (v := nI 7) rfl hd (k l p e s m args below meth c H locs ls C hls hP hS)
theorem go_uat (j : Nat) (hj : j < 7) (hd : decode cc pc = .ok (.iaload, 1)) (k : GoM E d own cc nL ret P σ (pc + 1) lv (.int (zUs j) :: st)) : GoM E d own cc nL ret P σ pc lv (.int (nI j) :: .ref (zU E) :: st) := by
  intro l p e s m args below meth c H locs ls C hls hP hS
  have hZ := C.2.2.2.2.2.2.2.2.2.2.2.2.2.2.1
  exact va_ti C.1 C.2.1 hZ hS (vp_in_nI hj (by decide)) (v := .int (zUs j)) (by rw [nI_clamp (by omega)]) hd (k l p e s m args below meth c H locs ls C hls hP hS)
end GoUsual
theorem usu_at : ∀ j, j < 7 → zUs j = ctok (usual.getD j 0) ∧ usual.take j ++ [usual.getD j 0] = usual.take (j + 1) ∧ (usual.take j).length = j := by decide
def StpIs (σ : zT) (k : Nat) (xs : List Nat) : Prop := σ.1 k 4 = nI xs.length ∧ ∀ j t, xs[j]? = some t → σ.2.1 k 1 j = ctok t

theorem c_X4_beUsual {E : zE} {σ : zT} {k d : Nat} {due : Bool} {W S : List Nat} {c : Nat → Bool} (hk : zRl k = true) (hR : RdIs σ k due W S d c) : CalM E 1 yX4_beUsual cX4_beUsual 2 none [.ref (zA E k 0)] σ (fun r σ' => r = none ∧ RdIs σ' k due W usual d c ∧ FrG [k] σ σ') := by
  refine cal_of_go (own := RX4) rfl (by decide +kernel) (Nat.le_of_ble_eq_true rfl) ?_
  have loop : ∀ (z j : Nat) (τ : zT), 7 - j = z → j ≤ 7 → RdIs τ k due W (usual.take j) d c → FrG [k] σ τ → GoM E 1 RX4 cX4_beUsual 2 none (fun r σ' => r = none ∧ RdIs σ' k due W usual d c ∧ FrG [k] σ σ') τ 7 [(0, .ref (zA E k 0)), (1, .int (nI j))] [] := by
    intro z
    induction z with
    | zero =>
      intro j τ hz hj hR hF
      have ej : j = 7 := by omega
      subst ej
      refine go_iload_n (i := 1) (pc := 7) dX4_beUsual_7 rfl rfl ?_
      refine go_usu fk_X4_31 (pc := 8) dX4_beUsual_8 ?_
      refine go_ulen (pc := 11) dX4_beUsual_11 ?_
      refine go_icmp_ge 30 (pc := 12) dX4_beUsual_12 (by decide) (fun h12 => ?_) (fun h12 => ?_)
      · first | rw [nI_leI (by omega) (by omega)] at h12 | rw [zi_leN (by omega)] at h12 | rw [zi_Nle (by omega)] at h12 | rw [zi_le] at h12
        refine go_return (pc := 30) dX4_beUsual_30 rfl ?_
        exact ⟨rfl, hR, hF⟩
      · first | rw [nI_leI (by omega) (by omega)] at h12 | rw [zi_leN (by omega)] at h12 | rw [zi_Nle (by omega)] at h12 | rw [zi_le] at h12
        omega
    | succ z ih =>
      intro j τ hz hj hR hF
      have hu := usu_at j (by omega)
      refine go_iload_n (i := 1) (pc := 7) dX4_beUsual_7 rfl rfl ?_
      refine go_usu fk_X4_31 (pc := 8) dX4_beUsual_8 ?_
      refine go_ulen (pc := 11) dX4_beUsual_11 ?_
      refine go_icmp_ge 30 (pc := 12) dX4_beUsual_12 (by decide) (fun h12 => ?_) (fun h12 => ?_)
      · first | rw [nI_leI (by omega) (by omega)] at h12 | rw [zi_leN (by omega)] at h12 | rw [zi_Nle (by omega)] at h12 | rw [zi_le] at h12
        omega
      · first | rw [nI_leI (by omega) (by omega)] at h12 | rw [zi_leN (by omega)] at h12 | rw [zi_Nle (by omega)] at h12 | rw [zi_le] at h12
        refine go_aload_n (i := 0) (pc := 15) dX4_beUsual_15 rfl rfl ?_
        refine go_usu fk_X4_31 (pc := 16) dX4_beUsual_16 ?_
        refine go_iload_n (i := 1) (pc := 19) dX4_beUsual_19 rfl rfl ?_
        refine go_uat j (by omega) (pc := 20) dX4_beUsual_20 ?_
        rw [hu.1]
        refine go_callV ml_X4_34 mt_X4_addStep (pc := 21) dX4_beUsual_21 (c_X4_addStep (t := usual.getD j 0) hk hR (by rw [hu.2.2]; omega)) (by first | rfl | (apply zL_cq <;> assumption) | (apply zR_cq <;> assumption)) rfl (by first | rfl | (apply zL_in <;> first | assumption | decide) | (apply zR_in <;> first | assumption | decide)) (by decide) (by decide) rfl rfl (Nat.le_of_ble_eq_true rfl) (fun r σ' hp => ?_)
        obtain ⟨rfl, hR1, hF1⟩ := hp
        dsimp only [zRet]
        rw [hu.2.1] at hR1
        refine go_iincN (pc := 24) dX4_beUsual_24 rfl (by decide) ?_
        refine go_goto 7 (pc := 27) dX4_beUsual_27 (by decide) ?_
        exact ih (j + 1) _ (by omega) (by omega) hR1 (hF.tr hF1)
  refine go_aload_n (i := 0) (pc := 0) dX4_beUsual_0 rfl rfl ?_
  refine go_iconst (nI 0) (pc := 1) dX4_beUsual_1 (by decide) ?_
  refine go_puti fp_X4_27 (pc := 2) dX4_beUsual_2 (by first | rfl | (apply zL_fi <;> first | assumption | decide) | (apply zR_fi <;> first | assumption | decide)) rfl rfl ?_
  refine go_iconst (nI 0) (pc := 5) dX4_beUsual_5 (by decide) ?_
  refine go_istore_n (i := 1) (pc := 6) dX4_beUsual_6 rfl (by decide) ?_
  exact loop 7 0 _ rfl (by decide) ⟨uS_s _ _ _ _, fun j t h => (by cases h), by rw [uS_1, if_neg (by simp)]; exact hR.2.2.1, hR.2.2.2.1, by rw [uS_1, if_neg (by simp)]; exact hR.2.2.2.2.1, by rw [uS_1, if_neg (by simp)]; exact hR.2.2.2.2.2.1, by rw [uS_1, if_neg (by simp)]; exact hR.2.2.2.2.2.2⟩ (FrG.rf.uS (by simp))

def c0 (_ : Nat) : Bool := false
/-- the class's answer: the fault's place, or no fault -/
def rdF (L : Nat) (R : Nat × Nat × List Nat) : Option Nat := if L = 0 ∨ (L ≤ 40 ∧ R.1 = 1) then none else some (if R.1 = 1 then min L 40 else R.2.1)
def rdA (L : Nat) (R : Nat × Nat × List Nat) : Int32 := match rdF L R with | none => -1 | some q => nI q
def rdX (L : Nat) (R : Nat × Nat × List Nat) : List Nat := if L = 0 then usual else R.2.2
abbrev mq0 (L : Nat) (f : Nat → Nat) : Nat × Nat × List Nat := mQq f (min L 40) (0, true, [], [], 0, c0)
theorem mT_b {f : Nat → Nat} {lim p : Nat} {W S : List Nat} {d : Nat} {c : Nat → Bool} {y : mC} (hp : p < lim) (hl : S.length + W.length ≤ p) (hd : d ≤ 4) (h : mT f lim p W S d c = some y) : p < y.1 ∧ y.1 ≤ lim ∧ y.2.2.2.1.length + y.2.2.1.length ≤ y.1 ∧ y.2.2.2.2.1 ≤ 4 := by
  unfold mT at h
  split at h
  · rename_i h0
    have h1 := (tDig_p (f := f) (lim := lim) (p := p) (tDig_in (f := f) (lim := lim) (a := p) (m := 3) h0)).2
    cases h
    refine ⟨by dsimp only; omega, h1, ?_, hd⟩
    dsimp only
    rw [List.length_append]
    simp only [List.length_cons, List.length_nil]
    omega
  · split at h
    · cases h
      exact ⟨Nat.lt_succ_self _, hp, by simp only [List.length_cons]; omega, hd⟩
    · split at h
      · cases h
        exact ⟨Nat.lt_succ_self _, hp, by simp only [List.length_cons]; omega, by dsimp only; omega⟩
      · split at h
        · cases h
          refine ⟨Nat.lt_succ_self _, hp, ?_, hd⟩
          dsimp only
          rw [List.length_append]
          simp only [List.length_cons, List.length_nil]
          omega
        · cases h
theorem mA_b {f : Nat → Nat} {lim p : Nat} {W S : List Nat} {d : Nat} {c : Nat → Bool} {y : mC} (hp : p < lim) (hl : S.length + W.length ≤ p) (hd : d ≤ 4) (h : mA f p W S d c = some y) : p < y.1 ∧ y.1 ≤ lim ∧ y.2.2.2.1.length + y.2.2.1.length ≤ y.1 ∧ y.2.2.2.2.1 ≤ 4 := by
  unfold mA at h
  have hpl := fun r => popS_len r W S
  split at h
  · cases h
    have := hpl 1
    exact ⟨Nat.lt_succ_self _, hp, by simp only [List.length_tail]; omega, by dsimp only; omega⟩
  · split at h
    · cases h
    · rename_i t _
      split at h
      · split at h
        · cases h
        · cases h
          have := hpl 1
          exact ⟨Nat.lt_succ_self _, hp, by simp only [List.length_cons]; omega, hd⟩
      · cases h
        have := hpl (rkT t)
        exact ⟨Nat.lt_succ_self _, hp, by simp only [List.length_cons]; omega, hd⟩

theorem c_X4_read {E : zE} {σ : zT} {k L : Nat} {f : Nat → Nat} (hk : zRl k = true) (hT : TextIs σ L f) : CalM E 3 yX4_read cX4_read 6 (some .int) [.ref (zA E k 0), .ref (zA E 1 0)] σ (fun r σ' => r = some (.int (rdA L (mq0 L f))) ∧ (rdF L (mq0 L f) = none → StpIs σ' k (rdX L (mq0 L f))) ∧ FrG [k] σ σ') := by
  refine cal_of_go (own := RX4) rfl (by decide +kernel) (Nat.le_of_ble_eq_true rfl) ?_
  have hL80 := hT.2.1
  have loop : L ≠ 0 → ∀ (z p i : Nat) (due : Bool) (W S : List Nat) (d : Nat) (c : Nat → Bool) (τ : zT), min L 40 - p ≤ z → i ≤ p → p ≤ min L 40 → RdIs τ k due W S d c → S.length + W.length ≤ p → d ≤ 4 → mQq f (min L 40) (p, due, W, S, d, c) = mq0 L f → FrG [k] σ τ → GoM E 3 RX4 cX4_read 6 (some .int) (fun r σ' => r = some (.int (rdA L (mq0 L f))) ∧ (rdF L (mq0 L f) = none → StpIs σ' k (rdX L (mq0 L f))) ∧ FrG [k] σ σ') τ 53 [(0, .ref (zA E k 0)), (1, .ref (zA E 1 0)), (2, .int (nI (min L 40))), (3, .int (nI p)), (4, .int (nI i))] [] := by
    intro hL0 z
    induction z with
    | zero =>
      intro p i due W S d c τ hz hip hpl hR hSW hd hM hF
      have hTt := hT.fr hF (by rcases zR_or hk with h | h <;> (subst h; decide))
      have ep : p = min L 40 := by omega
      have hE := mQq_e (f := f) (lim := min L 40) (x := (p, due, W, S, d, c)) (by dsimp only; omega)
      rw [hE] at hM
      refine go_iload (pc := 53) dX4_read_53 rfl ?_
      refine go_bipush (nI 40) (pc := 55) dX4_read_55 (by decide) ?_
      refine go_icmp_ge 111 (pc := 57) dX4_read_57 (by decide) (fun h57 => ?_) (fun h57 => ?_)
      · first | rw [nI_leI (by omega) (by omega)] at h57 | rw [zi_leN (by omega)] at h57 | rw [zi_Nle (by omega)] at h57 | rw [zi_le] at h57
        refine go_aload_n (i := 1) (pc := 111) dX4_read_111 rfl rfl ?_
        refine go_callV ml_X4_51 mt_X8_size (pc := 112) dX4_read_112 (c_X8_size hTt) (by first | rfl | (apply zL_cq <;> assumption) | (apply zR_cq <;> assumption)) rfl (by first | rfl | (apply zL_in <;> first | assumption | decide) | (apply zR_in <;> first | assumption | decide)) (by decide) (by decide) rfl rfl (Nat.le_of_ble_eq_true rfl) (fun r σ' hp => ?_)
        obtain ⟨rfl, hσ⟩ := hp
        rw [hσ]
        clear hσ σ'
        dsimp only [zRet]
        refine go_bipush (nI 40) (pc := 115) dX4_read_115 (by decide) ?_
        refine go_icmp_gt 134 (pc := 117) dX4_read_117 (by decide) (fun h117 => ?_) (fun h117 => ?_)
        · first | rw [nI_ltI (by omega) (by omega)] at h117 | rw [zi_ltN (by omega)] at h117 | rw [zi_Nlt (by omega)] at h117 | rw [zi_lt] at h117
          refine go_iload_n (i := 2) (pc := 134) dX4_read_134 rfl rfl ?_
          have hw : 40 < L ∨ due = true ∨ 0 < d := by first | exact Or.inl (by omega) | exact Or.inr (Or.inl h124) | exact Or.inr (Or.inr (by omega))
          refine go_ireturn (pc := 135) dX4_read_135 rfl ?_
          have hE2 : rdF L (mq0 L f) = some (min L 40) := by
            unfold rdF
            rw [← hM]
            unfold mE
            by_cases hq : (p, due, W, S, d, c).2.1 = true ∨ 0 < (p, due, W, S, d, c).2.2.2.2.1
            · rw [if_pos hq]
              rw [if_neg (by dsimp only; omega), if_neg (fun h => absurd (show (0 : Nat) = 1 from h) (by decide))]
            · rw [if_neg hq]
              have h40 : 40 < L := by
                rcases hw with h | h | h
                · exact h
                · exact absurd (Or.inl h) hq
                · exact absurd (Or.inr h) hq
              rw [if_neg (by dsimp only; omega), if_pos rfl]
          refine ⟨?_, fun h => (by rw [hE2] at h; cases h), hF⟩
          unfold rdA
          rw [hE2]
        · first | rw [nI_ltI (by omega) (by omega)] at h117 | rw [zi_ltN (by omega)] at h117 | rw [zi_Nlt (by omega)] at h117 | rw [zi_lt] at h117
          refine go_aload_n (i := 0) (pc := 120) dX4_read_120 rfl rfl ?_
          refine go_geti fl_X4_47 (pc := 121) dX4_read_121 (by first | rfl | (apply zL_fi <;> first | assumption | decide) | (apply zR_fi <;> first | assumption | decide)) ?_
          rw [hR.2.2.2.2.2.2]
          refine go_if_ne 134 (pc := 124) dX4_read_124 (by decide) (fun h124 => ?_) (fun h124 => ?_)
          · rw [zb_0] at h124
            have h124 : due = true := by cases due <;> simp_all
            refine go_iload_n (i := 2) (pc := 134) dX4_read_134 rfl rfl ?_
            have hw : 40 < L ∨ due = true ∨ 0 < d := by first | exact Or.inl (by omega) | exact Or.inr (Or.inl h124) | exact Or.inr (Or.inr (by omega))
            refine go_ireturn (pc := 135) dX4_read_135 rfl ?_
            have hE2 : rdF L (mq0 L f) = some (min L 40) := by
              unfold rdF
              rw [← hM]
              unfold mE
              by_cases hq : (p, due, W, S, d, c).2.1 = true ∨ 0 < (p, due, W, S, d, c).2.2.2.2.1
              · rw [if_pos hq]
                rw [if_neg (by dsimp only; omega), if_neg (fun h => absurd (show (0 : Nat) = 1 from h) (by decide))]
              · rw [if_neg hq]
                have h40 : 40 < L := by
                  rcases hw with h | h | h
                  · exact h
                  · exact absurd (Or.inl h) hq
                  · exact absurd (Or.inr h) hq
                rw [if_neg (by dsimp only; omega), if_pos rfl]
            refine ⟨?_, fun h => (by rw [hE2] at h; cases h), hF⟩
            unfold rdA
            rw [hE2]
          · rw [zb_0] at h124
            have h124 : due = false := by cases due <;> simp_all
            refine go_aload_n (i := 0) (pc := 127) dX4_read_127 rfl rfl ?_
            refine go_geti fl_X4_41 (pc := 128) dX4_read_128 (by first | rfl | (apply zL_fi <;> first | assumption | decide) | (apply zR_fi <;> first | assumption | decide)) ?_
            rw [hR.2.2.2.2.1]
            refine go_if_le 136 (pc := 131) dX4_read_131 (by decide) (fun h131 => ?_) (fun h131 => ?_)
            · first | rw [zb_0d] at h131 | rw [zn_le0 (by omega)] at h131 | rw [zi_le0] at h131
              refine go_aload_n (i := 0) (pc := 136) dX4_read_136 rfl rfl ?_
              refine go_bipush (-11) (pc := 137) dX4_read_137 (by decide) ?_
              refine go_callS ml_X4_74 mt_X4_rank (pc := 139) dX4_read_139 (c_X4_rank2000) (by decide) (by decide) rfl rfl (Nat.le_of_ble_eq_true rfl) (fun r σ' hp => ?_)
              obtain ⟨rfl, hσ⟩ := hp
              rw [hσ]
              clear hσ σ'
              dsimp only [zRet]
              rw [show rkT 2000 = 1 from rfl]
              refine go_callV ml_X4_77 mt_X4_placeWaiting (pc := 142) dX4_read_142 (c_X4_placeWaiting (r1 := 1) hk (by decide) (by decide) hR (by omega)) (by first | rfl | (apply zL_cq <;> assumption) | (apply zR_cq <;> assumption)) rfl (by first | rfl | (apply zL_in <;> first | assumption | decide) | (apply zR_in <;> first | assumption | decide)) (by decide) (by decide) rfl rfl (Nat.le_of_ble_eq_true rfl) (fun r σ' hp => ?_)
              obtain ⟨rfl, hR1, hF1⟩ := hp
              dsimp only [zRet]
              refine go_iconst (-1) (pc := 145) dX4_read_145 (by decide) ?_
              refine go_ireturn (pc := 146) dX4_read_146 rfl ?_
              have hEM : mE (min L 40) (p, due, W, S, d, c) = (1, 0, (popS 1 W S).2) := by
                unfold mE
                rw [if_neg (by dsimp only; rintro (h | h); rw [h124] at h; cases h; omega)]
              rw [hEM] at hM
              have hE2 : rdF L (mq0 L f) = none := by
                unfold rdF
                rw [← hM]
                exact if_pos (Or.inr ⟨by omega, rfl⟩)
              refine ⟨?_, fun _ => ?_, hF.tr hF1⟩
              · unfold rdA
                rw [hE2]
              · unfold rdX
                rw [if_neg hL0, ← hM]
                exact ⟨hR1.1, hR1.2.1⟩
            · first | rw [zb_0d] at h131 | rw [zn_le0 (by omega)] at h131 | rw [zi_le0] at h131
              refine go_iload_n (i := 2) (pc := 134) dX4_read_134 rfl rfl ?_
              have hw : 40 < L ∨ due = true ∨ 0 < d := by first | exact Or.inl (by omega) | exact Or.inr (Or.inl h124) | exact Or.inr (Or.inr (by omega))
              refine go_ireturn (pc := 135) dX4_read_135 rfl ?_
              have hE2 : rdF L (mq0 L f) = some (min L 40) := by
                unfold rdF
                rw [← hM]
                unfold mE
                by_cases hq : (p, due, W, S, d, c).2.1 = true ∨ 0 < (p, due, W, S, d, c).2.2.2.2.1
                · rw [if_pos hq]
                  rw [if_neg (by dsimp only; omega), if_neg (fun h => absurd (show (0 : Nat) = 1 from h) (by decide))]
                · rw [if_neg hq]
                  have h40 : 40 < L := by
                    rcases hw with h | h | h
                    · exact h
                    · exact absurd (Or.inl h) hq
                    · exact absurd (Or.inr h) hq
                  rw [if_neg (by dsimp only; omega), if_pos rfl]
              refine ⟨?_, fun h => (by rw [hE2] at h; cases h), hF⟩
              unfold rdA
              rw [hE2]
      · first | rw [nI_leI (by omega) (by omega)] at h57 | rw [zi_leN (by omega)] at h57 | rw [zi_Nle (by omega)] at h57 | rw [zi_le] at h57
        refine go_iload_n (i := 3) (pc := 60) dX4_read_60 rfl rfl ?_
        refine go_iload_n (i := 2) (pc := 61) dX4_read_61 rfl rfl ?_
        refine go_icmp_ge 111 (pc := 62) dX4_read_62 (by decide) (fun h62 => ?_) (fun h62 => ?_)
        · first | rw [nI_leI (by omega) (by omega)] at h62 | rw [zi_leN (by omega)] at h62 | rw [zi_Nle (by omega)] at h62 | rw [zi_le] at h62
          refine go_aload_n (i := 1) (pc := 111) dX4_read_111 rfl rfl ?_
          refine go_callV ml_X4_51 mt_X8_size (pc := 112) dX4_read_112 (c_X8_size hTt) (by first | rfl | (apply zL_cq <;> assumption) | (apply zR_cq <;> assumption)) rfl (by first | rfl | (apply zL_in <;> first | assumption | decide) | (apply zR_in <;> first | assumption | decide)) (by decide) (by decide) rfl rfl (Nat.le_of_ble_eq_true rfl) (fun r σ' hp => ?_)
          obtain ⟨rfl, hσ⟩ := hp
          rw [hσ]
          clear hσ σ'
          dsimp only [zRet]
          refine go_bipush (nI 40) (pc := 115) dX4_read_115 (by decide) ?_
          refine go_icmp_gt 134 (pc := 117) dX4_read_117 (by decide) (fun h117 => ?_) (fun h117 => ?_)
          · first | rw [nI_ltI (by omega) (by omega)] at h117 | rw [zi_ltN (by omega)] at h117 | rw [zi_Nlt (by omega)] at h117 | rw [zi_lt] at h117
            refine go_iload_n (i := 2) (pc := 134) dX4_read_134 rfl rfl ?_
            have hw : 40 < L ∨ due = true ∨ 0 < d := by first | exact Or.inl (by omega) | exact Or.inr (Or.inl h124) | exact Or.inr (Or.inr (by omega))
            refine go_ireturn (pc := 135) dX4_read_135 rfl ?_
            have hE2 : rdF L (mq0 L f) = some (min L 40) := by
              unfold rdF
              rw [← hM]
              unfold mE
              by_cases hq : (p, due, W, S, d, c).2.1 = true ∨ 0 < (p, due, W, S, d, c).2.2.2.2.1
              · rw [if_pos hq]
                rw [if_neg (by dsimp only; omega), if_neg (fun h => absurd (show (0 : Nat) = 1 from h) (by decide))]
              · rw [if_neg hq]
                have h40 : 40 < L := by
                  rcases hw with h | h | h
                  · exact h
                  · exact absurd (Or.inl h) hq
                  · exact absurd (Or.inr h) hq
                rw [if_neg (by dsimp only; omega), if_pos rfl]
            refine ⟨?_, fun h => (by rw [hE2] at h; cases h), hF⟩
            unfold rdA
            rw [hE2]
          · first | rw [nI_ltI (by omega) (by omega)] at h117 | rw [zi_ltN (by omega)] at h117 | rw [zi_Nlt (by omega)] at h117 | rw [zi_lt] at h117
            refine go_aload_n (i := 0) (pc := 120) dX4_read_120 rfl rfl ?_
            refine go_geti fl_X4_47 (pc := 121) dX4_read_121 (by first | rfl | (apply zL_fi <;> first | assumption | decide) | (apply zR_fi <;> first | assumption | decide)) ?_
            rw [hR.2.2.2.2.2.2]
            refine go_if_ne 134 (pc := 124) dX4_read_124 (by decide) (fun h124 => ?_) (fun h124 => ?_)
            · rw [zb_0] at h124
              have h124 : due = true := by cases due <;> simp_all
              refine go_iload_n (i := 2) (pc := 134) dX4_read_134 rfl rfl ?_
              have hw : 40 < L ∨ due = true ∨ 0 < d := by first | exact Or.inl (by omega) | exact Or.inr (Or.inl h124) | exact Or.inr (Or.inr (by omega))
              refine go_ireturn (pc := 135) dX4_read_135 rfl ?_
              have hE2 : rdF L (mq0 L f) = some (min L 40) := by
                unfold rdF
                rw [← hM]
                unfold mE
                by_cases hq : (p, due, W, S, d, c).2.1 = true ∨ 0 < (p, due, W, S, d, c).2.2.2.2.1
                · rw [if_pos hq]
                  rw [if_neg (by dsimp only; omega), if_neg (fun h => absurd (show (0 : Nat) = 1 from h) (by decide))]
                · rw [if_neg hq]
                  have h40 : 40 < L := by
                    rcases hw with h | h | h
                    · exact h
                    · exact absurd (Or.inl h) hq
                    · exact absurd (Or.inr h) hq
                  rw [if_neg (by dsimp only; omega), if_pos rfl]
              refine ⟨?_, fun h => (by rw [hE2] at h; cases h), hF⟩
              unfold rdA
              rw [hE2]
            · rw [zb_0] at h124
              have h124 : due = false := by cases due <;> simp_all
              refine go_aload_n (i := 0) (pc := 127) dX4_read_127 rfl rfl ?_
              refine go_geti fl_X4_41 (pc := 128) dX4_read_128 (by first | rfl | (apply zL_fi <;> first | assumption | decide) | (apply zR_fi <;> first | assumption | decide)) ?_
              rw [hR.2.2.2.2.1]
              refine go_if_le 136 (pc := 131) dX4_read_131 (by decide) (fun h131 => ?_) (fun h131 => ?_)
              · first | rw [zb_0d] at h131 | rw [zn_le0 (by omega)] at h131 | rw [zi_le0] at h131
                refine go_aload_n (i := 0) (pc := 136) dX4_read_136 rfl rfl ?_
                refine go_bipush (-11) (pc := 137) dX4_read_137 (by decide) ?_
                refine go_callS ml_X4_74 mt_X4_rank (pc := 139) dX4_read_139 (c_X4_rank2000) (by decide) (by decide) rfl rfl (Nat.le_of_ble_eq_true rfl) (fun r σ' hp => ?_)
                obtain ⟨rfl, hσ⟩ := hp
                rw [hσ]
                clear hσ σ'
                dsimp only [zRet]
                rw [show rkT 2000 = 1 from rfl]
                refine go_callV ml_X4_77 mt_X4_placeWaiting (pc := 142) dX4_read_142 (c_X4_placeWaiting (r1 := 1) hk (by decide) (by decide) hR (by omega)) (by first | rfl | (apply zL_cq <;> assumption) | (apply zR_cq <;> assumption)) rfl (by first | rfl | (apply zL_in <;> first | assumption | decide) | (apply zR_in <;> first | assumption | decide)) (by decide) (by decide) rfl rfl (Nat.le_of_ble_eq_true rfl) (fun r σ' hp => ?_)
                obtain ⟨rfl, hR1, hF1⟩ := hp
                dsimp only [zRet]
                refine go_iconst (-1) (pc := 145) dX4_read_145 (by decide) ?_
                refine go_ireturn (pc := 146) dX4_read_146 rfl ?_
                have hEM : mE (min L 40) (p, due, W, S, d, c) = (1, 0, (popS 1 W S).2) := by
                  unfold mE
                  rw [if_neg (by dsimp only; rintro (h | h); rw [h124] at h; cases h; omega)]
                rw [hEM] at hM
                have hE2 : rdF L (mq0 L f) = none := by
                  unfold rdF
                  rw [← hM]
                  exact if_pos (Or.inr ⟨by omega, rfl⟩)
                refine ⟨?_, fun _ => ?_, hF.tr hF1⟩
                · unfold rdA
                  rw [hE2]
                · unfold rdX
                  rw [if_neg hL0, ← hM]
                  exact ⟨hR1.1, hR1.2.1⟩
              · first | rw [zb_0d] at h131 | rw [zn_le0 (by omega)] at h131 | rw [zi_le0] at h131
                refine go_iload_n (i := 2) (pc := 134) dX4_read_134 rfl rfl ?_
                have hw : 40 < L ∨ due = true ∨ 0 < d := by first | exact Or.inl (by omega) | exact Or.inr (Or.inl h124) | exact Or.inr (Or.inr (by omega))
                refine go_ireturn (pc := 135) dX4_read_135 rfl ?_
                have hE2 : rdF L (mq0 L f) = some (min L 40) := by
                  unfold rdF
                  rw [← hM]
                  unfold mE
                  by_cases hq : (p, due, W, S, d, c).2.1 = true ∨ 0 < (p, due, W, S, d, c).2.2.2.2.1
                  · rw [if_pos hq]
                    rw [if_neg (by dsimp only; omega), if_neg (fun h => absurd (show (0 : Nat) = 1 from h) (by decide))]
                  · rw [if_neg hq]
                    have h40 : 40 < L := by
                      rcases hw with h | h | h
                      · exact h
                      · exact absurd (Or.inl h) hq
                      · exact absurd (Or.inr h) hq
                    rw [if_neg (by dsimp only; omega), if_pos rfl]
                refine ⟨?_, fun h => (by rw [hE2] at h; cases h), hF⟩
                unfold rdA
                rw [hE2]
        · first | rw [nI_leI (by omega) (by omega)] at h62 | rw [zi_leN (by omega)] at h62 | rw [zi_Nle (by omega)] at h62 | rw [zi_le] at h62
          exfalso
          omega
    | succ z ih =>
      intro p i due W S d c τ hz hip hpl hR hSW hd hM hF
      have hTt := hT.fr hF (by rcases zR_or hk with h | h <;> (subst h; decide))
      by_cases hpe : p < min L 40
      · skip
        cases hs : mS f (min L 40) (p, due, W, S, d, c) with
        | none =>
          have hM2 := mQq_n (f := f) (lim := min L 40) (x := (p, due, W, S, d, c)) hpe hs
          rw [hM2] at hM
          cases due with
          | true =>
            refine go_iload (pc := 53) dX4_read_53 rfl ?_
            refine go_bipush (nI 40) (pc := 55) dX4_read_55 (by decide) ?_
            refine go_icmp_ge 111 (pc := 57) dX4_read_57 (by decide) (fun h57 => ?_) (fun h57 => ?_)
            · first | rw [nI_leI (by omega) (by omega)] at h57 | rw [zi_leN (by omega)] at h57 | rw [zi_Nle (by omega)] at h57 | rw [zi_le] at h57
              exfalso
              omega
            · first | rw [nI_leI (by omega) (by omega)] at h57 | rw [zi_leN (by omega)] at h57 | rw [zi_Nle (by omega)] at h57 | rw [zi_le] at h57
              refine go_iload_n (i := 3) (pc := 60) dX4_read_60 rfl rfl ?_
              refine go_iload_n (i := 2) (pc := 61) dX4_read_61 rfl rfl ?_
              refine go_icmp_ge 111 (pc := 62) dX4_read_62 (by decide) (fun h62 => ?_) (fun h62 => ?_)
              · first | rw [nI_leI (by omega) (by omega)] at h62 | rw [zi_leN (by omega)] at h62 | rw [zi_Nle (by omega)] at h62 | rw [zi_le] at h62
                exfalso
                omega
              · first | rw [nI_leI (by omega) (by omega)] at h62 | rw [zi_leN (by omega)] at h62 | rw [zi_Nle (by omega)] at h62 | rw [zi_le] at h62
                refine go_aload_n (i := 0) (pc := 65) dX4_read_65 rfl rfl ?_
                refine go_geti fl_X4_47 (pc := 66) dX4_read_66 (by first | rfl | (apply zL_fi <;> first | assumption | decide) | (apply zR_fi <;> first | assumption | decide)) ?_
                rw [hR.2.2.2.2.2.2]
                refine go_if_eq 82 (pc := 69) dX4_read_69 (by decide) (fun h69 => ?_) (fun h69 => ?_)
                · exact absurd h69 (by decide)
                · refine go_aload_n (i := 0) (pc := 72) dX4_read_72 rfl rfl ?_
                  refine go_aload_n (i := 1) (pc := 73) dX4_read_73 rfl rfl ?_
                  refine go_iload_n (i := 3) (pc := 74) dX4_read_74 rfl rfl ?_
                  refine go_iload_n (i := 2) (pc := 75) dX4_read_75 rfl rfl ?_
                  refine go_callV ml_X4_63 mt_X4_readThing (pc := 76) dX4_read_76 (c_X4_readThing hk hTt (by omega) (by omega) hpe hR hSW hd) (by first | rfl | (apply zL_cq <;> assumption) | (apply zR_cq <;> assumption)) rfl (by first | rfl | (apply zL_in <;> first | assumption | decide) | (apply zR_in <;> first | assumption | decide)) (by decide) (by decide) rfl rfl (Nat.le_of_ble_eq_true rfl) (fun r σ' hp => ?_)
                  obtain ⟨rfl, hY, hF1⟩ := hp
                  dsimp only [zRet]
                  rw [show mT f (min L 40) p W S d c = _ from hs] at hY ⊢
                  dsimp only [stpA]
                  refine go_goto 91 (pc := 79) dX4_read_79 (by decide) ?_
                  refine go_istore (pc := 91) dX4_read_91 (by decide) ?_
                  refine go_iload (pc := 93) dX4_read_93 rfl ?_
                  refine go_if_ne 100 (pc := 95) dX4_read_95 (by decide) (fun h95 => ?_) (fun h95 => ?_)
                  · exact absurd rfl h95
                  · refine go_iload_n (i := 3) (pc := 98) dX4_read_98 rfl rfl ?_
                    refine go_ireturn (pc := 99) dX4_read_99 rfl ?_
                    have hE2 : rdF L (mq0 L f) = some p := by
                      unfold rdF
                      rw [← hM]
                      rw [if_neg (by dsimp only; omega), if_neg (fun h => absurd (show (0 : Nat) = 1 from h) (by decide))]
                    refine ⟨?_, fun h => (by rw [hE2] at h; cases h), hF.tr hF1⟩
                    unfold rdA
                    rw [hE2]
          | false =>
            refine go_iload (pc := 53) dX4_read_53 rfl ?_
            refine go_bipush (nI 40) (pc := 55) dX4_read_55 (by decide) ?_
            refine go_icmp_ge 111 (pc := 57) dX4_read_57 (by decide) (fun h57 => ?_) (fun h57 => ?_)
            · first | rw [nI_leI (by omega) (by omega)] at h57 | rw [zi_leN (by omega)] at h57 | rw [zi_Nle (by omega)] at h57 | rw [zi_le] at h57
              exfalso
              omega
            · first | rw [nI_leI (by omega) (by omega)] at h57 | rw [zi_leN (by omega)] at h57 | rw [zi_Nle (by omega)] at h57 | rw [zi_le] at h57
              refine go_iload_n (i := 3) (pc := 60) dX4_read_60 rfl rfl ?_
              refine go_iload_n (i := 2) (pc := 61) dX4_read_61 rfl rfl ?_
              refine go_icmp_ge 111 (pc := 62) dX4_read_62 (by decide) (fun h62 => ?_) (fun h62 => ?_)
              · first | rw [nI_leI (by omega) (by omega)] at h62 | rw [zi_leN (by omega)] at h62 | rw [zi_Nle (by omega)] at h62 | rw [zi_le] at h62
                exfalso
                omega
              · first | rw [nI_leI (by omega) (by omega)] at h62 | rw [zi_leN (by omega)] at h62 | rw [zi_Nle (by omega)] at h62 | rw [zi_le] at h62
                refine go_aload_n (i := 0) (pc := 65) dX4_read_65 rfl rfl ?_
                refine go_geti fl_X4_47 (pc := 66) dX4_read_66 (by first | rfl | (apply zL_fi <;> first | assumption | decide) | (apply zR_fi <;> first | assumption | decide)) ?_
                rw [hR.2.2.2.2.2.2]
                refine go_if_eq 82 (pc := 69) dX4_read_69 (by decide) (fun h69 => ?_) (fun h69 => ?_)
                · refine go_aload_n (i := 0) (pc := 82) dX4_read_82 rfl rfl ?_
                  refine go_aload_n (i := 1) (pc := 83) dX4_read_83 rfl rfl ?_
                  refine go_iload_n (i := 3) (pc := 84) dX4_read_84 rfl rfl ?_
                  refine go_callV ml_X4_67 mt_X8_at (pc := 85) dX4_read_85 (c_X8_at hTt (by omega)) (by first | rfl | (apply zL_cq <;> assumption) | (apply zR_cq <;> assumption)) rfl (by first | rfl | (apply zL_in <;> first | assumption | decide) | (apply zR_in <;> first | assumption | decide)) (by decide) (by decide) rfl rfl (Nat.le_of_ble_eq_true rfl) (fun r σ' hp => ?_)
                  obtain ⟨rfl, hσ⟩ := hp
                  rw [hσ]
                  clear hσ σ'
                  dsimp only [zRet]
                  rw [show tAt L f p = nI (f p) from if_pos (by omega)]
                  refine go_callV ml_X4_71 mt_X4_readAct (pc := 88) dX4_read_88 (c_X4_readAct hk (hTt.2.2 p (by omega)).2 (by omega) hR hSW hd) (by first | rfl | (apply zL_cq <;> assumption) | (apply zR_cq <;> assumption)) rfl (by first | rfl | (apply zL_in <;> first | assumption | decide) | (apply zR_in <;> first | assumption | decide)) (by decide) (by decide) rfl rfl (Nat.le_of_ble_eq_true rfl) (fun r σ' hp => ?_)
                  obtain ⟨rfl, hY, hF1⟩ := hp
                  dsimp only [zRet]
                  rw [show mA f p W S d c = _ from hs] at hY ⊢
                  dsimp only [stpA]
                  refine go_istore (pc := 91) dX4_read_91 (by decide) ?_
                  refine go_iload (pc := 93) dX4_read_93 rfl ?_
                  refine go_if_ne 100 (pc := 95) dX4_read_95 (by decide) (fun h95 => ?_) (fun h95 => ?_)
                  · exact absurd rfl h95
                  · refine go_iload_n (i := 3) (pc := 98) dX4_read_98 rfl rfl ?_
                    refine go_ireturn (pc := 99) dX4_read_99 rfl ?_
                    have hE2 : rdF L (mq0 L f) = some p := by
                      unfold rdF
                      rw [← hM]
                      rw [if_neg (by dsimp only; omega), if_neg (fun h => absurd (show (0 : Nat) = 1 from h) (by decide))]
                    refine ⟨?_, fun h => (by rw [hE2] at h; cases h), hF.tr hF1⟩
                    unfold rdA
                    rw [hE2]
                · exact absurd rfl h69
        | some y =>
          have hM2 := mQq_s (f := f) (lim := min L 40) (x := (p, due, W, S, d, c)) hpe hs
          rw [hM2] at hM
          cases due with
          | true =>
            have hyb := mT_b hpe hSW hd hs
            refine go_iload (pc := 53) dX4_read_53 rfl ?_
            refine go_bipush (nI 40) (pc := 55) dX4_read_55 (by decide) ?_
            refine go_icmp_ge 111 (pc := 57) dX4_read_57 (by decide) (fun h57 => ?_) (fun h57 => ?_)
            · first | rw [nI_leI (by omega) (by omega)] at h57 | rw [zi_leN (by omega)] at h57 | rw [zi_Nle (by omega)] at h57 | rw [zi_le] at h57
              exfalso
              omega
            · first | rw [nI_leI (by omega) (by omega)] at h57 | rw [zi_leN (by omega)] at h57 | rw [zi_Nle (by omega)] at h57 | rw [zi_le] at h57
              refine go_iload_n (i := 3) (pc := 60) dX4_read_60 rfl rfl ?_
              refine go_iload_n (i := 2) (pc := 61) dX4_read_61 rfl rfl ?_
              refine go_icmp_ge 111 (pc := 62) dX4_read_62 (by decide) (fun h62 => ?_) (fun h62 => ?_)
              · first | rw [nI_leI (by omega) (by omega)] at h62 | rw [zi_leN (by omega)] at h62 | rw [zi_Nle (by omega)] at h62 | rw [zi_le] at h62
                exfalso
                omega
              · first | rw [nI_leI (by omega) (by omega)] at h62 | rw [zi_leN (by omega)] at h62 | rw [zi_Nle (by omega)] at h62 | rw [zi_le] at h62
                refine go_aload_n (i := 0) (pc := 65) dX4_read_65 rfl rfl ?_
                refine go_geti fl_X4_47 (pc := 66) dX4_read_66 (by first | rfl | (apply zL_fi <;> first | assumption | decide) | (apply zR_fi <;> first | assumption | decide)) ?_
                rw [hR.2.2.2.2.2.2]
                refine go_if_eq 82 (pc := 69) dX4_read_69 (by decide) (fun h69 => ?_) (fun h69 => ?_)
                · exact absurd h69 (by decide)
                · refine go_aload_n (i := 0) (pc := 72) dX4_read_72 rfl rfl ?_
                  refine go_aload_n (i := 1) (pc := 73) dX4_read_73 rfl rfl ?_
                  refine go_iload_n (i := 3) (pc := 74) dX4_read_74 rfl rfl ?_
                  refine go_iload_n (i := 2) (pc := 75) dX4_read_75 rfl rfl ?_
                  refine go_callV ml_X4_63 mt_X4_readThing (pc := 76) dX4_read_76 (c_X4_readThing hk hTt (by omega) (by omega) hpe hR hSW hd) (by first | rfl | (apply zL_cq <;> assumption) | (apply zR_cq <;> assumption)) rfl (by first | rfl | (apply zL_in <;> first | assumption | decide) | (apply zR_in <;> first | assumption | decide)) (by decide) (by decide) rfl rfl (Nat.le_of_ble_eq_true rfl) (fun r σ' hp => ?_)
                  obtain ⟨rfl, hY, hF1⟩ := hp
                  dsimp only [zRet]
                  rw [show mT f (min L 40) p W S d c = _ from hs] at hY ⊢
                  dsimp only [stpA]
                  refine go_goto 91 (pc := 79) dX4_read_79 (by decide) ?_
                  refine go_istore (pc := 91) dX4_read_91 (by decide) ?_
                  refine go_iload (pc := 93) dX4_read_93 rfl ?_
                  refine go_if_ne 100 (pc := 95) dX4_read_95 (by decide) (fun h95 => ?_) (fun h95 => ?_)
                  · first | rw [zb_0d] at h95 | rw [zn_eq0 (by omega)] at h95 | rw [zi_eq0] at h95
                    refine go_iload_n (i := 3) (pc := 100) dX4_read_100 rfl rfl ?_
                    refine go_iload (pc := 101) dX4_read_101 rfl ?_
                    first | with_reducible refine go_iaddN (pc := 103) dX4_read_103 ?_ | refine go_iadd (pc := 103) dX4_read_103 ?_
                    refine go_istore_n (i := 3) (pc := 104) dX4_read_104 rfl (by decide) ?_
                    refine go_iincN (pc := 105) dX4_read_105 rfl (by decide) ?_
                    refine go_goto 53 (pc := 108) dX4_read_108 (by decide) ?_
                    rw [show p + (y.1 - p) = y.1 by omega]
                    refine go_drop [0, 1, 2, 3, 4] rfl ?_
                    exact ih y.1 (i + 1) y.2.1 y.2.2.1 y.2.2.2.1 y.2.2.2.2.1 y.2.2.2.2.2 _ (by omega) (by omega) hyb.2.1 hY hyb.2.2.1 hyb.2.2.2 hM (hF.tr hF1)
                  · first | rw [zb_0d] at h95 | rw [zn_eq0 (by omega)] at h95 | rw [zi_eq0] at h95
                    exfalso
                    omega
          | false =>
            have hyb := mA_b hpe hSW hd hs
            refine go_iload (pc := 53) dX4_read_53 rfl ?_
            refine go_bipush (nI 40) (pc := 55) dX4_read_55 (by decide) ?_
            refine go_icmp_ge 111 (pc := 57) dX4_read_57 (by decide) (fun h57 => ?_) (fun h57 => ?_)
            · first | rw [nI_leI (by omega) (by omega)] at h57 | rw [zi_leN (by omega)] at h57 | rw [zi_Nle (by omega)] at h57 | rw [zi_le] at h57
              exfalso
              omega
            · first | rw [nI_leI (by omega) (by omega)] at h57 | rw [zi_leN (by omega)] at h57 | rw [zi_Nle (by omega)] at h57 | rw [zi_le] at h57
              refine go_iload_n (i := 3) (pc := 60) dX4_read_60 rfl rfl ?_
              refine go_iload_n (i := 2) (pc := 61) dX4_read_61 rfl rfl ?_
              refine go_icmp_ge 111 (pc := 62) dX4_read_62 (by decide) (fun h62 => ?_) (fun h62 => ?_)
              · first | rw [nI_leI (by omega) (by omega)] at h62 | rw [zi_leN (by omega)] at h62 | rw [zi_Nle (by omega)] at h62 | rw [zi_le] at h62
                exfalso
                omega
              · first | rw [nI_leI (by omega) (by omega)] at h62 | rw [zi_leN (by omega)] at h62 | rw [zi_Nle (by omega)] at h62 | rw [zi_le] at h62
                refine go_aload_n (i := 0) (pc := 65) dX4_read_65 rfl rfl ?_
                refine go_geti fl_X4_47 (pc := 66) dX4_read_66 (by first | rfl | (apply zL_fi <;> first | assumption | decide) | (apply zR_fi <;> first | assumption | decide)) ?_
                rw [hR.2.2.2.2.2.2]
                refine go_if_eq 82 (pc := 69) dX4_read_69 (by decide) (fun h69 => ?_) (fun h69 => ?_)
                · refine go_aload_n (i := 0) (pc := 82) dX4_read_82 rfl rfl ?_
                  refine go_aload_n (i := 1) (pc := 83) dX4_read_83 rfl rfl ?_
                  refine go_iload_n (i := 3) (pc := 84) dX4_read_84 rfl rfl ?_
                  refine go_callV ml_X4_67 mt_X8_at (pc := 85) dX4_read_85 (c_X8_at hTt (by omega)) (by first | rfl | (apply zL_cq <;> assumption) | (apply zR_cq <;> assumption)) rfl (by first | rfl | (apply zL_in <;> first | assumption | decide) | (apply zR_in <;> first | assumption | decide)) (by decide) (by decide) rfl rfl (Nat.le_of_ble_eq_true rfl) (fun r σ' hp => ?_)
                  obtain ⟨rfl, hσ⟩ := hp
                  rw [hσ]
                  clear hσ σ'
                  dsimp only [zRet]
                  rw [show tAt L f p = nI (f p) from if_pos (by omega)]
                  refine go_callV ml_X4_71 mt_X4_readAct (pc := 88) dX4_read_88 (c_X4_readAct hk (hTt.2.2 p (by omega)).2 (by omega) hR hSW hd) (by first | rfl | (apply zL_cq <;> assumption) | (apply zR_cq <;> assumption)) rfl (by first | rfl | (apply zL_in <;> first | assumption | decide) | (apply zR_in <;> first | assumption | decide)) (by decide) (by decide) rfl rfl (Nat.le_of_ble_eq_true rfl) (fun r σ' hp => ?_)
                  obtain ⟨rfl, hY, hF1⟩ := hp
                  dsimp only [zRet]
                  rw [show mA f p W S d c = _ from hs] at hY ⊢
                  dsimp only [stpA]
                  refine go_istore (pc := 91) dX4_read_91 (by decide) ?_
                  refine go_iload (pc := 93) dX4_read_93 rfl ?_
                  refine go_if_ne 100 (pc := 95) dX4_read_95 (by decide) (fun h95 => ?_) (fun h95 => ?_)
                  · first | rw [zb_0d] at h95 | rw [zn_eq0 (by omega)] at h95 | rw [zi_eq0] at h95
                    refine go_iload_n (i := 3) (pc := 100) dX4_read_100 rfl rfl ?_
                    refine go_iload (pc := 101) dX4_read_101 rfl ?_
                    first | with_reducible refine go_iaddN (pc := 103) dX4_read_103 ?_ | refine go_iadd (pc := 103) dX4_read_103 ?_
                    refine go_istore_n (i := 3) (pc := 104) dX4_read_104 rfl (by decide) ?_
                    refine go_iincN (pc := 105) dX4_read_105 rfl (by decide) ?_
                    refine go_goto 53 (pc := 108) dX4_read_108 (by decide) ?_
                    rw [show p + (y.1 - p) = y.1 by omega]
                    refine go_drop [0, 1, 2, 3, 4] rfl ?_
                    exact ih y.1 (i + 1) y.2.1 y.2.2.1 y.2.2.2.1 y.2.2.2.2.1 y.2.2.2.2.2 _ (by omega) (by omega) hyb.2.1 hY hyb.2.2.1 hyb.2.2.2 hM (hF.tr hF1)
                  · first | rw [zb_0d] at h95 | rw [zn_eq0 (by omega)] at h95 | rw [zi_eq0] at h95
                    exfalso
                    omega
                · exact absurd rfl h69
      · skip
        have ep : p = min L 40 := by omega
        have hE := mQq_e (f := f) (lim := min L 40) (x := (p, due, W, S, d, c)) (by dsimp only; omega)
        rw [hE] at hM
        refine go_iload (pc := 53) dX4_read_53 rfl ?_
        refine go_bipush (nI 40) (pc := 55) dX4_read_55 (by decide) ?_
        refine go_icmp_ge 111 (pc := 57) dX4_read_57 (by decide) (fun h57 => ?_) (fun h57 => ?_)
        · first | rw [nI_leI (by omega) (by omega)] at h57 | rw [zi_leN (by omega)] at h57 | rw [zi_Nle (by omega)] at h57 | rw [zi_le] at h57
          refine go_aload_n (i := 1) (pc := 111) dX4_read_111 rfl rfl ?_
          refine go_callV ml_X4_51 mt_X8_size (pc := 112) dX4_read_112 (c_X8_size hTt) (by first | rfl | (apply zL_cq <;> assumption) | (apply zR_cq <;> assumption)) rfl (by first | rfl | (apply zL_in <;> first | assumption | decide) | (apply zR_in <;> first | assumption | decide)) (by decide) (by decide) rfl rfl (Nat.le_of_ble_eq_true rfl) (fun r σ' hp => ?_)
          obtain ⟨rfl, hσ⟩ := hp
          rw [hσ]
          clear hσ σ'
          dsimp only [zRet]
          refine go_bipush (nI 40) (pc := 115) dX4_read_115 (by decide) ?_
          refine go_icmp_gt 134 (pc := 117) dX4_read_117 (by decide) (fun h117 => ?_) (fun h117 => ?_)
          · first | rw [nI_ltI (by omega) (by omega)] at h117 | rw [zi_ltN (by omega)] at h117 | rw [zi_Nlt (by omega)] at h117 | rw [zi_lt] at h117
            refine go_iload_n (i := 2) (pc := 134) dX4_read_134 rfl rfl ?_
            have hw : 40 < L ∨ due = true ∨ 0 < d := by first | exact Or.inl (by omega) | exact Or.inr (Or.inl h124) | exact Or.inr (Or.inr (by omega))
            refine go_ireturn (pc := 135) dX4_read_135 rfl ?_
            have hE2 : rdF L (mq0 L f) = some (min L 40) := by
              unfold rdF
              rw [← hM]
              unfold mE
              by_cases hq : (p, due, W, S, d, c).2.1 = true ∨ 0 < (p, due, W, S, d, c).2.2.2.2.1
              · rw [if_pos hq]
                rw [if_neg (by dsimp only; omega), if_neg (fun h => absurd (show (0 : Nat) = 1 from h) (by decide))]
              · rw [if_neg hq]
                have h40 : 40 < L := by
                  rcases hw with h | h | h
                  · exact h
                  · exact absurd (Or.inl h) hq
                  · exact absurd (Or.inr h) hq
                rw [if_neg (by dsimp only; omega), if_pos rfl]
            refine ⟨?_, fun h => (by rw [hE2] at h; cases h), hF⟩
            unfold rdA
            rw [hE2]
          · first | rw [nI_ltI (by omega) (by omega)] at h117 | rw [zi_ltN (by omega)] at h117 | rw [zi_Nlt (by omega)] at h117 | rw [zi_lt] at h117
            refine go_aload_n (i := 0) (pc := 120) dX4_read_120 rfl rfl ?_
            refine go_geti fl_X4_47 (pc := 121) dX4_read_121 (by first | rfl | (apply zL_fi <;> first | assumption | decide) | (apply zR_fi <;> first | assumption | decide)) ?_
            rw [hR.2.2.2.2.2.2]
            refine go_if_ne 134 (pc := 124) dX4_read_124 (by decide) (fun h124 => ?_) (fun h124 => ?_)
            · rw [zb_0] at h124
              have h124 : due = true := by cases due <;> simp_all
              refine go_iload_n (i := 2) (pc := 134) dX4_read_134 rfl rfl ?_
              have hw : 40 < L ∨ due = true ∨ 0 < d := by first | exact Or.inl (by omega) | exact Or.inr (Or.inl h124) | exact Or.inr (Or.inr (by omega))
              refine go_ireturn (pc := 135) dX4_read_135 rfl ?_
              have hE2 : rdF L (mq0 L f) = some (min L 40) := by
                unfold rdF
                rw [← hM]
                unfold mE
                by_cases hq : (p, due, W, S, d, c).2.1 = true ∨ 0 < (p, due, W, S, d, c).2.2.2.2.1
                · rw [if_pos hq]
                  rw [if_neg (by dsimp only; omega), if_neg (fun h => absurd (show (0 : Nat) = 1 from h) (by decide))]
                · rw [if_neg hq]
                  have h40 : 40 < L := by
                    rcases hw with h | h | h
                    · exact h
                    · exact absurd (Or.inl h) hq
                    · exact absurd (Or.inr h) hq
                  rw [if_neg (by dsimp only; omega), if_pos rfl]
              refine ⟨?_, fun h => (by rw [hE2] at h; cases h), hF⟩
              unfold rdA
              rw [hE2]
            · rw [zb_0] at h124
              have h124 : due = false := by cases due <;> simp_all
              refine go_aload_n (i := 0) (pc := 127) dX4_read_127 rfl rfl ?_
              refine go_geti fl_X4_41 (pc := 128) dX4_read_128 (by first | rfl | (apply zL_fi <;> first | assumption | decide) | (apply zR_fi <;> first | assumption | decide)) ?_
              rw [hR.2.2.2.2.1]
              refine go_if_le 136 (pc := 131) dX4_read_131 (by decide) (fun h131 => ?_) (fun h131 => ?_)
              · first | rw [zb_0d] at h131 | rw [zn_le0 (by omega)] at h131 | rw [zi_le0] at h131
                refine go_aload_n (i := 0) (pc := 136) dX4_read_136 rfl rfl ?_
                refine go_bipush (-11) (pc := 137) dX4_read_137 (by decide) ?_
                refine go_callS ml_X4_74 mt_X4_rank (pc := 139) dX4_read_139 (c_X4_rank2000) (by decide) (by decide) rfl rfl (Nat.le_of_ble_eq_true rfl) (fun r σ' hp => ?_)
                obtain ⟨rfl, hσ⟩ := hp
                rw [hσ]
                clear hσ σ'
                dsimp only [zRet]
                rw [show rkT 2000 = 1 from rfl]
                refine go_callV ml_X4_77 mt_X4_placeWaiting (pc := 142) dX4_read_142 (c_X4_placeWaiting (r1 := 1) hk (by decide) (by decide) hR (by omega)) (by first | rfl | (apply zL_cq <;> assumption) | (apply zR_cq <;> assumption)) rfl (by first | rfl | (apply zL_in <;> first | assumption | decide) | (apply zR_in <;> first | assumption | decide)) (by decide) (by decide) rfl rfl (Nat.le_of_ble_eq_true rfl) (fun r σ' hp => ?_)
                obtain ⟨rfl, hR1, hF1⟩ := hp
                dsimp only [zRet]
                refine go_iconst (-1) (pc := 145) dX4_read_145 (by decide) ?_
                refine go_ireturn (pc := 146) dX4_read_146 rfl ?_
                have hEM : mE (min L 40) (p, due, W, S, d, c) = (1, 0, (popS 1 W S).2) := by
                  unfold mE
                  rw [if_neg (by dsimp only; rintro (h | h); rw [h124] at h; cases h; omega)]
                rw [hEM] at hM
                have hE2 : rdF L (mq0 L f) = none := by
                  unfold rdF
                  rw [← hM]
                  exact if_pos (Or.inr ⟨by omega, rfl⟩)
                refine ⟨?_, fun _ => ?_, hF.tr hF1⟩
                · unfold rdA
                  rw [hE2]
                · unfold rdX
                  rw [if_neg hL0, ← hM]
                  exact ⟨hR1.1, hR1.2.1⟩
              · first | rw [zb_0d] at h131 | rw [zn_le0 (by omega)] at h131 | rw [zi_le0] at h131
                refine go_iload_n (i := 2) (pc := 134) dX4_read_134 rfl rfl ?_
                have hw : 40 < L ∨ due = true ∨ 0 < d := by first | exact Or.inl (by omega) | exact Or.inr (Or.inl h124) | exact Or.inr (Or.inr (by omega))
                refine go_ireturn (pc := 135) dX4_read_135 rfl ?_
                have hE2 : rdF L (mq0 L f) = some (min L 40) := by
                  unfold rdF
                  rw [← hM]
                  unfold mE
                  by_cases hq : (p, due, W, S, d, c).2.1 = true ∨ 0 < (p, due, W, S, d, c).2.2.2.2.1
                  · rw [if_pos hq]
                    rw [if_neg (by dsimp only; omega), if_neg (fun h => absurd (show (0 : Nat) = 1 from h) (by decide))]
                  · rw [if_neg hq]
                    have h40 : 40 < L := by
                      rcases hw with h | h | h
                      · exact h
                      · exact absurd (Or.inl h) hq
                      · exact absurd (Or.inr h) hq
                    rw [if_neg (by dsimp only; omega), if_pos rfl]
                refine ⟨?_, fun h => (by rw [hE2] at h; cases h), hF⟩
                unfold rdA
                rw [hE2]
        · first | rw [nI_leI (by omega) (by omega)] at h57 | rw [zi_leN (by omega)] at h57 | rw [zi_Nle (by omega)] at h57 | rw [zi_le] at h57
          refine go_iload_n (i := 3) (pc := 60) dX4_read_60 rfl rfl ?_
          refine go_iload_n (i := 2) (pc := 61) dX4_read_61 rfl rfl ?_
          refine go_icmp_ge 111 (pc := 62) dX4_read_62 (by decide) (fun h62 => ?_) (fun h62 => ?_)
          · first | rw [nI_leI (by omega) (by omega)] at h62 | rw [zi_leN (by omega)] at h62 | rw [zi_Nle (by omega)] at h62 | rw [zi_le] at h62
            refine go_aload_n (i := 1) (pc := 111) dX4_read_111 rfl rfl ?_
            refine go_callV ml_X4_51 mt_X8_size (pc := 112) dX4_read_112 (c_X8_size hTt) (by first | rfl | (apply zL_cq <;> assumption) | (apply zR_cq <;> assumption)) rfl (by first | rfl | (apply zL_in <;> first | assumption | decide) | (apply zR_in <;> first | assumption | decide)) (by decide) (by decide) rfl rfl (Nat.le_of_ble_eq_true rfl) (fun r σ' hp => ?_)
            obtain ⟨rfl, hσ⟩ := hp
            rw [hσ]
            clear hσ σ'
            dsimp only [zRet]
            refine go_bipush (nI 40) (pc := 115) dX4_read_115 (by decide) ?_
            refine go_icmp_gt 134 (pc := 117) dX4_read_117 (by decide) (fun h117 => ?_) (fun h117 => ?_)
            · first | rw [nI_ltI (by omega) (by omega)] at h117 | rw [zi_ltN (by omega)] at h117 | rw [zi_Nlt (by omega)] at h117 | rw [zi_lt] at h117
              refine go_iload_n (i := 2) (pc := 134) dX4_read_134 rfl rfl ?_
              have hw : 40 < L ∨ due = true ∨ 0 < d := by first | exact Or.inl (by omega) | exact Or.inr (Or.inl h124) | exact Or.inr (Or.inr (by omega))
              refine go_ireturn (pc := 135) dX4_read_135 rfl ?_
              have hE2 : rdF L (mq0 L f) = some (min L 40) := by
                unfold rdF
                rw [← hM]
                unfold mE
                by_cases hq : (p, due, W, S, d, c).2.1 = true ∨ 0 < (p, due, W, S, d, c).2.2.2.2.1
                · rw [if_pos hq]
                  rw [if_neg (by dsimp only; omega), if_neg (fun h => absurd (show (0 : Nat) = 1 from h) (by decide))]
                · rw [if_neg hq]
                  have h40 : 40 < L := by
                    rcases hw with h | h | h
                    · exact h
                    · exact absurd (Or.inl h) hq
                    · exact absurd (Or.inr h) hq
                  rw [if_neg (by dsimp only; omega), if_pos rfl]
              refine ⟨?_, fun h => (by rw [hE2] at h; cases h), hF⟩
              unfold rdA
              rw [hE2]
            · first | rw [nI_ltI (by omega) (by omega)] at h117 | rw [zi_ltN (by omega)] at h117 | rw [zi_Nlt (by omega)] at h117 | rw [zi_lt] at h117
              refine go_aload_n (i := 0) (pc := 120) dX4_read_120 rfl rfl ?_
              refine go_geti fl_X4_47 (pc := 121) dX4_read_121 (by first | rfl | (apply zL_fi <;> first | assumption | decide) | (apply zR_fi <;> first | assumption | decide)) ?_
              rw [hR.2.2.2.2.2.2]
              refine go_if_ne 134 (pc := 124) dX4_read_124 (by decide) (fun h124 => ?_) (fun h124 => ?_)
              · rw [zb_0] at h124
                have h124 : due = true := by cases due <;> simp_all
                refine go_iload_n (i := 2) (pc := 134) dX4_read_134 rfl rfl ?_
                have hw : 40 < L ∨ due = true ∨ 0 < d := by first | exact Or.inl (by omega) | exact Or.inr (Or.inl h124) | exact Or.inr (Or.inr (by omega))
                refine go_ireturn (pc := 135) dX4_read_135 rfl ?_
                have hE2 : rdF L (mq0 L f) = some (min L 40) := by
                  unfold rdF
                  rw [← hM]
                  unfold mE
                  by_cases hq : (p, due, W, S, d, c).2.1 = true ∨ 0 < (p, due, W, S, d, c).2.2.2.2.1
                  · rw [if_pos hq]
                    rw [if_neg (by dsimp only; omega), if_neg (fun h => absurd (show (0 : Nat) = 1 from h) (by decide))]
                  · rw [if_neg hq]
                    have h40 : 40 < L := by
                      rcases hw with h | h | h
                      · exact h
                      · exact absurd (Or.inl h) hq
                      · exact absurd (Or.inr h) hq
                    rw [if_neg (by dsimp only; omega), if_pos rfl]
                refine ⟨?_, fun h => (by rw [hE2] at h; cases h), hF⟩
                unfold rdA
                rw [hE2]
              · rw [zb_0] at h124
                have h124 : due = false := by cases due <;> simp_all
                refine go_aload_n (i := 0) (pc := 127) dX4_read_127 rfl rfl ?_
                refine go_geti fl_X4_41 (pc := 128) dX4_read_128 (by first | rfl | (apply zL_fi <;> first | assumption | decide) | (apply zR_fi <;> first | assumption | decide)) ?_
                rw [hR.2.2.2.2.1]
                refine go_if_le 136 (pc := 131) dX4_read_131 (by decide) (fun h131 => ?_) (fun h131 => ?_)
                · first | rw [zb_0d] at h131 | rw [zn_le0 (by omega)] at h131 | rw [zi_le0] at h131
                  refine go_aload_n (i := 0) (pc := 136) dX4_read_136 rfl rfl ?_
                  refine go_bipush (-11) (pc := 137) dX4_read_137 (by decide) ?_
                  refine go_callS ml_X4_74 mt_X4_rank (pc := 139) dX4_read_139 (c_X4_rank2000) (by decide) (by decide) rfl rfl (Nat.le_of_ble_eq_true rfl) (fun r σ' hp => ?_)
                  obtain ⟨rfl, hσ⟩ := hp
                  rw [hσ]
                  clear hσ σ'
                  dsimp only [zRet]
                  rw [show rkT 2000 = 1 from rfl]
                  refine go_callV ml_X4_77 mt_X4_placeWaiting (pc := 142) dX4_read_142 (c_X4_placeWaiting (r1 := 1) hk (by decide) (by decide) hR (by omega)) (by first | rfl | (apply zL_cq <;> assumption) | (apply zR_cq <;> assumption)) rfl (by first | rfl | (apply zL_in <;> first | assumption | decide) | (apply zR_in <;> first | assumption | decide)) (by decide) (by decide) rfl rfl (Nat.le_of_ble_eq_true rfl) (fun r σ' hp => ?_)
                  obtain ⟨rfl, hR1, hF1⟩ := hp
                  dsimp only [zRet]
                  refine go_iconst (-1) (pc := 145) dX4_read_145 (by decide) ?_
                  refine go_ireturn (pc := 146) dX4_read_146 rfl ?_
                  have hEM : mE (min L 40) (p, due, W, S, d, c) = (1, 0, (popS 1 W S).2) := by
                    unfold mE
                    rw [if_neg (by dsimp only; rintro (h | h); rw [h124] at h; cases h; omega)]
                  rw [hEM] at hM
                  have hE2 : rdF L (mq0 L f) = none := by
                    unfold rdF
                    rw [← hM]
                    exact if_pos (Or.inr ⟨by omega, rfl⟩)
                  refine ⟨?_, fun _ => ?_, hF.tr hF1⟩
                  · unfold rdA
                    rw [hE2]
                  · unfold rdX
                    rw [if_neg hL0, ← hM]
                    exact ⟨hR1.1, hR1.2.1⟩
                · first | rw [zb_0d] at h131 | rw [zn_le0 (by omega)] at h131 | rw [zi_le0] at h131
                  refine go_iload_n (i := 2) (pc := 134) dX4_read_134 rfl rfl ?_
                  have hw : 40 < L ∨ due = true ∨ 0 < d := by first | exact Or.inl (by omega) | exact Or.inr (Or.inl h124) | exact Or.inr (Or.inr (by omega))
                  refine go_ireturn (pc := 135) dX4_read_135 rfl ?_
                  have hE2 : rdF L (mq0 L f) = some (min L 40) := by
                    unfold rdF
                    rw [← hM]
                    unfold mE
                    by_cases hq : (p, due, W, S, d, c).2.1 = true ∨ 0 < (p, due, W, S, d, c).2.2.2.2.1
                    · rw [if_pos hq]
                      rw [if_neg (by dsimp only; omega), if_neg (fun h => absurd (show (0 : Nat) = 1 from h) (by decide))]
                    · rw [if_neg hq]
                      have h40 : 40 < L := by
                        rcases hw with h | h | h
                        · exact h
                        · exact absurd (Or.inl h) hq
                        · exact absurd (Or.inr h) hq
                      rw [if_neg (by dsimp only; omega), if_pos rfl]
                  refine ⟨?_, fun h => (by rw [hE2] at h; cases h), hF⟩
                  unfold rdA
                  rw [hE2]
          · first | rw [nI_leI (by omega) (by omega)] at h62 | rw [zi_leN (by omega)] at h62 | rw [zi_Nle (by omega)] at h62 | rw [zi_le] at h62
            exfalso
            omega
  refine go_aload_n (i := 0) (pc := 0) dX4_read_0 rfl rfl ?_
  refine go_iconst (nI 0) (pc := 1) dX4_read_1 (by decide) ?_
  refine go_puti fp_X4_27 (pc := 2) dX4_read_2 (by first | rfl | (apply zL_fi <;> first | assumption | decide) | (apply zR_fi <;> first | assumption | decide)) rfl rfl ?_
  refine go_aload_n (i := 0) (pc := 5) dX4_read_5 rfl rfl ?_
  refine go_iconst (nI 0) (pc := 6) dX4_read_6 (by decide) ?_
  refine go_puti fp_X4_38 (pc := 7) dX4_read_7 (by first | rfl | (apply zL_fi <;> first | assumption | decide) | (apply zR_fi <;> first | assumption | decide)) rfl rfl ?_
  refine go_aload_n (i := 0) (pc := 10) dX4_read_10 rfl rfl ?_
  refine go_iconst (nI 0) (pc := 11) dX4_read_11 (by decide) ?_
  refine go_puti fp_X4_41 (pc := 12) dX4_read_12 (by first | rfl | (apply zL_fi <;> first | assumption | decide) | (apply zR_fi <;> first | assumption | decide)) rfl rfl ?_
  refine go_aload_n (i := 0) (pc := 15) dX4_read_15 rfl rfl ?_
  refine go_iconst (nI 0) (pc := 16) dX4_read_16 (by decide) ?_
  refine go_puti fp_X4_44 (pc := 17) dX4_read_17 (by first | rfl | (apply zL_fi <;> first | assumption | decide) | (apply zR_fi <;> first | assumption | decide)) rfl rfl ?_
  refine go_aload_n (i := 0) (pc := 20) dX4_read_20 rfl rfl ?_
  refine go_iconst (nI 1) (pc := 21) dX4_read_21 (by decide) ?_
  refine go_puti fp_X4_47 (pc := 22) dX4_read_22 (by first | rfl | (apply zL_fi <;> first | assumption | decide) | (apply zR_fi <;> first | assumption | decide)) rfl rfl ?_
  have hR0 : RdIs (uS (uS (uS (uS (uS σ k 4 (nI 0)) k 5 (nI 0)) k 6 (nI 0)) k 7 (nI 0)) k 8 (nI 1)) k true [] [] 0 c0 := ⟨by simp [uS_1], fun j t h => (by cases h), by simp [uS_1], trivial, by simp [uS_1], by simp [uS_1, msk, c0], by simp [uS_1, zb]⟩
  have hF0 : FrG [k] σ (uS (uS (uS (uS (uS σ k 4 (nI 0)) k 5 (nI 0)) k 6 (nI 0)) k 7 (nI 0)) k 8 (nI 1)) := ((((FrG.rf.uS (by simp)).uS (by simp)).uS (by simp)).uS (by simp)).uS (by simp)
  have hT0 := hT.fr hF0 (by rcases zR_or hk with h | h <;> (subst h; decide))
  generalize uS (uS (uS (uS (uS σ k 4 (nI 0)) k 5 (nI 0)) k 6 (nI 0)) k 7 (nI 0)) k 8 (nI 1) = τ0 at hR0 hF0 hT0 ⊢
  refine go_aload_n (i := 1) (pc := 25) dX4_read_25 rfl rfl ?_
  refine go_callV ml_X4_51 mt_X8_size (pc := 26) dX4_read_26 (c_X8_size hT0) (by first | rfl | (apply zL_cq <;> assumption) | (apply zR_cq <;> assumption)) rfl (by first | rfl | (apply zL_in <;> first | assumption | decide) | (apply zR_in <;> first | assumption | decide)) (by decide) (by decide) rfl rfl (Nat.le_of_ble_eq_true rfl) (fun r σ' hp => ?_)
  obtain ⟨rfl, hσ⟩ := hp
  rw [hσ]
  clear hσ σ'
  dsimp only [zRet]
  refine go_if_ne 38 (pc := 29) dX4_read_29 (by decide) (fun h29 => ?_) (fun h29 => ?_)
  · first | rw [zb_0d] at h29 | rw [zn_eq0 (by omega)] at h29 | rw [zi_eq0] at h29
    refine go_aload_n (i := 1) (pc := 38) dX4_read_38 rfl rfl ?_
    refine go_callV ml_X4_51 mt_X8_size (pc := 39) dX4_read_39 (c_X8_size hT0) (by first | rfl | (apply zL_cq <;> assumption) | (apply zR_cq <;> assumption)) rfl (by first | rfl | (apply zL_in <;> first | assumption | decide) | (apply zR_in <;> first | assumption | decide)) (by decide) (by decide) rfl rfl (Nat.le_of_ble_eq_true rfl) (fun r σ' hp => ?_)
    obtain ⟨rfl, hσ⟩ := hp
    rw [hσ]
    clear hσ σ'
    dsimp only [zRet]
    refine go_bipush (nI 40) (pc := 42) dX4_read_42 (by decide) ?_
    refine go_callS ml_X4_57 mt_J9_min_7cf53 (pc := 44) dX4_read_44 (c_J9_minN (by omega) (by decide)) (by decide) (by decide) rfl rfl (Nat.le_of_ble_eq_true rfl) (fun r σ' hp => ?_)
    obtain ⟨rfl, hσ⟩ := hp
    rw [hσ]
    clear hσ σ'
    dsimp only [zRet]
    refine go_istore_n (i := 2) (pc := 47) dX4_read_47 rfl (by decide) ?_
    refine go_iconst (nI 0) (pc := 48) dX4_read_48 (by decide) ?_
    refine go_istore_n (i := 3) (pc := 49) dX4_read_49 rfl (by decide) ?_
    refine go_iconst (nI 0) (pc := 50) dX4_read_50 (by decide) ?_
    refine go_istore (pc := 51) dX4_read_51 (by decide) ?_
    exact loop h29 _ 0 0 true [] [] 0 c0 _ (Nat.le_refl _) (Nat.le_refl _) (Nat.zero_le _) hR0 (Nat.le_refl _) (by decide) rfl hF0
  · first | rw [zb_0d] at h29 | rw [zn_eq0 (by omega)] at h29 | rw [zi_eq0] at h29
    refine go_aload_n (i := 0) (pc := 32) dX4_read_32 rfl rfl ?_
    refine go_callV ml_X4_24 mt_X4_beUsual (pc := 33) dX4_read_33 (c_X4_beUsual hk hR0) (by first | rfl | (apply zL_cq <;> assumption) | (apply zR_cq <;> assumption)) rfl (by first | rfl | (apply zL_in <;> first | assumption | decide) | (apply zR_in <;> first | assumption | decide)) (by decide) (by decide) rfl rfl (Nat.le_of_ble_eq_true rfl) (fun r σ' hp => ?_)
    obtain ⟨rfl, hR1, hF1⟩ := hp
    dsimp only [zRet]
    refine go_iconst (-1) (pc := 36) dX4_read_36 (by decide) ?_
    refine go_ireturn (pc := 37) dX4_read_37 rfl ?_
    have hE2 : rdF L (mq0 L f) = none := by
      unfold rdF
      exact if_pos (Or.inl h29)
    refine ⟨?_, fun _ => ?_, hF0.tr hF1⟩
    · unfold rdA
      rw [hE2]
    · unfold rdX
      rw [if_pos h29]
      exact ⟨hR1.1, hR1.2.1⟩

