theorem msk_le (c : Nat → Bool) : msk c < 32 := by
  unfold msk
  repeat' split
  all_goals decide
def c5 (a0 a1 a2 a3 a4 : Bool) (i : Nat) : Bool := if i = 0 then a0 else if i = 1 then a1 else if i = 2 then a2 else if i = 3 then a3 else a4
theorem bc_clr (c : Nat → Bool) {d : Nat} (hd : d < 5) : nI (msk c) &&& ((nI 1 <<< (nI d &&& 31)) ^^^ -1) = nI (msk (upc c d false)) := by
  have key : ∀ a0 a1 a2 a3 a4 : Bool, ∀ d : Nat, d < 5 → nI (msk (c5 a0 a1 a2 a3 a4)) &&& ((nI 1 <<< (nI d &&& 31)) ^^^ -1) = nI (msk (upc (c5 a0 a1 a2 a3 a4) d false)) := by decide +kernel
  exact key (c 0) (c 1) (c 2) (c 3) (c 4) d hd
theorem bc_set (c : Nat → Bool) {d : Nat} (hd : d < 5) : nI (msk c) ||| (nI 1 <<< (nI d &&& 31)) = nI (msk (upc c d true)) := by
  have key : ∀ a0 a1 a2 a3 a4 : Bool, ∀ d : Nat, d < 5 → nI (msk (c5 a0 a1 a2 a3 a4)) ||| (nI 1 <<< (nI d &&& 31)) = nI (msk (upc (c5 a0 a1 a2 a3 a4) d true)) := by decide +kernel
  exact key (c 0) (c 1) (c 2) (c 3) (c 4) d hd
theorem bc_tst (c : Nat → Bool) {d : Nat} (hd : d < 5) : (nI (msk c) >>> (nI d &&& 31)) &&& nI 1 = zb (c d) := by
  have key : ∀ a0 a1 a2 a3 a4 : Bool, ∀ d : Nat, d < 5 → (nI (msk (c5 a0 a1 a2 a3 a4)) >>> (nI d &&& 31)) &&& nI 1 = zb (c5 a0 a1 a2 a3 a4 d) := by decide +kernel
  have h := key (c 0) (c 1) (c 2) (c 3) (c 4) d hd
  have e : c5 (c 0) (c 1) (c 2) (c 3) (c 4) d = c d := by
    have : d = 0 ∨ d = 1 ∨ d = 2 ∨ d = 3 ∨ d = 4 := by omega
    rcases this with rfl | rfl | rfl | rfl | rfl <;> rfl
  rw [e] at h
  exact h
theorem max_tail {W : List Nat} (h : W.length ≤ 40) : (if (nI 0).toInt < (nI W.length - nI 1).toInt then nI W.length - nI 1 else nI 0) = nI W.tail.length := by
  have key : ∀ n : Nat, n ≤ 40 → (if (nI 0).toInt < (nI n - nI 1).toInt then nI n - nI 1 else nI 0) = nI (n - 1) := by decide +kernel
  rw [key _ h, List.length_tail]
theorem stw_tail {A : Nat → Int32} {W : List Nat} (h : stw A W) : stw A W.tail := by
  cases W with
  | nil => exact h
  | cons a W => exact h.2
theorem RdIs.s5t {σ : zT} {k d : Nat} {due : Bool} {W S : List Nat} {c : Nat → Bool} (h : RdIs σ k due W S d c) : RdIs (uS σ k 5 (nI W.tail.length)) k due W.tail S d c :=
  ⟨by rw [uS_1, if_neg (by simp)]; exact h.1, h.2.1, uS_s _ _ _ _, stw_tail h.2.2.2.1, by rw [uS_1, if_neg (by simp)]; exact h.2.2.2.2.1, by rw [uS_1, if_neg (by simp)]; exact h.2.2.2.2.2.1, by rw [uS_1, if_neg (by simp)]; exact h.2.2.2.2.2.2⟩
/-- after a step -/
def RdY (σ : zT) (k : Nat) (y : mC) : Prop := RdIs σ k y.2.1 y.2.2.1 y.2.2.2.1 y.2.2.2.2.1 y.2.2.2.2.2
def stpA (p : Nat) (e : Option mC) : Int32 := match e with | none => nI 0 | some y => nI (y.1 - p)
def stpR (σ : zT) (k : Nat) (e : Option mC) : Prop := match e with | none => True | some y => RdY σ k y
theorem acT_tok {v t : Nat} (h : acT v = some t) : 2000 ≤ t ∧ t < 2007 := by
  unfold acT at h
  repeat' split at h
  all_goals (cases h; try decide)
theorem ctok_15 {t : Nat} (h : 1000 ≤ t) : ctok t ≠ -15 := by
  unfold ctok
  rw [if_neg (by omega)]
  repeat' split
  all_goals decide
theorem popS_len (r : Nat) : ∀ W S : List Nat, (popS r W S).2.length + (popS r W S).1.length = S.length + W.length
  | [], S => rfl
  | a :: W, S => by
    rw [popS]
    split
    · rw [popS_len r W, List.length_append]
      simp only [List.length_cons, List.length_nil]
      omega
    · rfl

theorem c_X4_readThing {E : zE} {σ : zT} {k d p lim L : Nat} {W S : List Nat} {c : Nat → Bool} {f : Nat → Nat} (hk : zRl k = true) (hT : TextIs σ L f) (hlim : lim ≤ L) (hl40 : lim ≤ 40) (hp : p < lim) (hR : RdIs σ k true W S d c) (hl : S.length + W.length ≤ p) (hd : d ≤ 4) : CalM E 2 yX4_readThing cX4_readThing 7 (some .int) [.ref (zA E k 0), .ref (zA E 1 0), .int (nI p), .int (nI lim)] σ (fun r σ' => r = some (.int (stpA p (mT f lim p W S d c))) ∧ stpR σ' k (mT f lim p W S d c) ∧ FrG [k] σ σ') := by
  refine cal_of_go (own := RX4) rfl (by decide +kernel) (Nat.le_of_ble_eq_true rfl) ?_
  have hdl := tDig_le f lim p 3
  have hfp := (hT.2.2 p (by have := hT.2.1; omega)).2
  have hat : tAt L f p = nI (f p) := if_pos (by omega)
  have hdi := fun i (hi : i < tDig f lim p 3) => tDig_in (f := f) (lim := lim) (a := p) (m := 3) hi
  have hdn := tok_n (f := f) (lim := lim) (p := p)
  refine go_aload_n (i := 1) (pc := 0) dX4_readThing_0 rfl rfl ?_
  refine go_iload_n (i := 2) (pc := 1) dX4_readThing_1 rfl rfl ?_
  refine go_iconst (nI 3) (pc := 2) dX4_readThing_2 (by decide) ?_
  refine go_iload_n (i := 3) (pc := 3) dX4_readThing_3 rfl rfl ?_
  refine go_callV ml_X4_80 mt_X8_digits (pc := 4) dX4_readThing_4 (c_X8_digits hT (by omega) (by decide) hlim) (by first | rfl | (apply zL_cq <;> assumption) | (apply zR_cq <;> assumption)) rfl (by first | rfl | (apply zL_in <;> first | assumption | decide) | (apply zR_in <;> first | assumption | decide)) (by decide) (by decide) rfl rfl (Nat.le_of_ble_eq_true rfl) (fun r σ' hp => ?_)
  obtain ⟨rfl, hσ⟩ := hp
  rw [hσ]
  clear hσ σ'
  dsimp only [zRet]
  refine go_istore (pc := 7) dX4_readThing_7 (by decide) ?_
  refine go_iload (pc := 9) dX4_readThing_9 rfl ?_
  refine go_if_le 33 (pc := 11) dX4_readThing_11 (by decide) (fun h11 => ?_) (fun h11 => ?_)
  · first | rw [zb_0d] at h11 | rw [zn_le0 (by omega)] at h11 | rw [zi_le0] at h11
    refine go_aload_n (i := 1) (pc := 33) dX4_readThing_33 rfl rfl ?_
    refine go_iload_n (i := 2) (pc := 34) dX4_readThing_34 rfl rfl ?_
    refine go_callV ml_X4_67 mt_X8_at (pc := 35) dX4_readThing_35 (c_X8_at hT (by omega)) (by first | rfl | (apply zL_cq <;> assumption) | (apply zR_cq <;> assumption)) rfl (by first | rfl | (apply zL_in <;> first | assumption | decide) | (apply zR_in <;> first | assumption | decide)) (by decide) (by decide) rfl rfl (Nat.le_of_ble_eq_true rfl) (fun r σ' hp => ?_)
    obtain ⟨rfl, hσ⟩ := hp
    rw [hσ]
    clear hσ σ'
    dsimp only [zRet]
    rw [hat]
    refine go_istore (pc := 38) dX4_readThing_38 (by decide) ?_
    refine go_iload (pc := 40) dX4_readThing_40 rfl ?_
    refine go_bipush (nI 45) (pc := 42) dX4_readThing_42 (by decide) ?_
    refine go_icmp_ne 55 (pc := 44) dX4_readThing_44 (by decide) (fun h44 => ?_) (fun h44 => ?_)
    · first | rw [nI_eq (by omega) (by omega)] at h44 | rw [zi_eqN (by omega)] at h44 | rw [zi_Neq (by omega)] at h44 | rw [zi_eq] at h44
      refine go_iload (pc := 55) dX4_readThing_55 rfl ?_
      refine go_bipush (nI 40) (pc := 57) dX4_readThing_57 (by decide) ?_
      refine go_icmp_ne 105 (pc := 59) dX4_readThing_59 (by decide) (fun h59 => ?_) (fun h59 => ?_)
      · first | rw [nI_eq (by omega) (by omega)] at h59 | rw [zi_eqN (by omega)] at h59 | rw [zi_Neq (by omega)] at h59 | rw [zi_eq] at h59
        have hmt : mT f lim p W S d c = (match am 2 (f p) with | some a => some (p + 1, false, W, S ++ [1000 + a], d, c) | none => none) := by unfold mT; rw [if_neg (by omega), if_neg (by omega), if_neg (by omega)]; cases am 2 (f p) <;> rfl
        rw [hmt]
        clear hmt
        cases ha : am 2 (f p) with
        | none =>
          refine go_iload (pc := 105) dX4_readThing_105 rfl ?_
          refine go_callS ml_X4_90 mt_X4_thingOf (pc := 107) dX4_readThing_107 (c_X4_thingOf hfp) (by decide) (by decide) rfl rfl (Nat.le_of_ble_eq_true rfl) (fun r σ' hp => ?_)
          obtain ⟨rfl, hσ⟩ := hp
          rw [hσ]
          clear hσ σ'
          dsimp only [zRet]
          rw [ha]
          refine go_istore (pc := 110) dX4_readThing_110 (by decide) ?_
          refine go_iload (pc := 112) dX4_readThing_112 rfl ?_
          refine go_bipush (-15) (pc := 114) dX4_readThing_114 (by decide) ?_
          refine go_icmp_ne 121 (pc := 116) dX4_readThing_116 (by decide) (fun h116 => ?_) (fun h116 => ?_)
          · exact absurd rfl h116
          · refine go_iconst (nI 0) (pc := 119) dX4_readThing_119 (by decide) ?_
            refine go_ireturn (pc := 120) dX4_readThing_120 rfl ?_
            exact ⟨rfl, trivial, FrG.rf⟩
        | some a =>
          refine go_iload (pc := 105) dX4_readThing_105 rfl ?_
          refine go_callS ml_X4_90 mt_X4_thingOf (pc := 107) dX4_readThing_107 (c_X4_thingOf hfp) (by decide) (by decide) rfl rfl (Nat.le_of_ble_eq_true rfl) (fun r σ' hp => ?_)
          obtain ⟨rfl, hσ⟩ := hp
          rw [hσ]
          clear hσ σ'
          dsimp only [zRet]
          rw [ha]
          refine go_istore (pc := 110) dX4_readThing_110 (by decide) ?_
          refine go_iload (pc := 112) dX4_readThing_112 rfl ?_
          refine go_bipush (-15) (pc := 114) dX4_readThing_114 (by decide) ?_
          refine go_icmp_ne 121 (pc := 116) dX4_readThing_116 (by decide) (fun h116 => ?_) (fun h116 => ?_)
          · refine go_aload_n (i := 0) (pc := 121) dX4_readThing_121 rfl rfl ?_
            refine go_iload (pc := 122) dX4_readThing_122 rfl ?_
            refine go_callV ml_X4_34 mt_X4_addStep (pc := 124) dX4_readThing_124 (c_X4_addStep (t := 1000 + a) hk hR (by omega)) (by first | rfl | (apply zL_cq <;> assumption) | (apply zR_cq <;> assumption)) rfl (by first | rfl | (apply zL_in <;> first | assumption | decide) | (apply zR_in <;> first | assumption | decide)) (by decide) (by decide) rfl rfl (Nat.le_of_ble_eq_true rfl) (fun r σ' hp => ?_)
            obtain ⟨rfl, hR1, hF1⟩ := hp
            dsimp only [zRet]
            refine go_aload_n (i := 0) (pc := 127) dX4_readThing_127 rfl rfl ?_
            refine go_iconst (nI 0) (pc := 128) dX4_readThing_128 (by decide) ?_
            refine go_puti fp_X4_47 (pc := 129) dX4_readThing_129 (by first | rfl | (apply zL_fi <;> first | assumption | decide) | (apply zR_fi <;> first | assumption | decide)) rfl rfl ?_
            refine go_iconst (nI 1) (pc := 132) dX4_readThing_132 (by decide) ?_
            refine go_ireturn (pc := 133) dX4_readThing_133 rfl ?_
            exact ⟨by show _ = some (Value.int (nI (p + 1 - p))); rw [Nat.add_sub_cancel_left], hR1.s8 (b := false), hF1.uS (by simp)⟩
          · exact absurd (show ctok (1000 + a) = -15 from h116) (ctok_15 (by omega))
      · first | rw [nI_eq (by omega) (by omega)] at h59 | rw [zi_eqN (by omega)] at h59 | rw [zi_Neq (by omega)] at h59 | rw [zi_eq] at h59
        refine go_aload_n (i := 0) (pc := 62) dX4_readThing_62 rfl rfl ?_
        refine go_geti fl_X4_41 (pc := 63) dX4_readThing_63 (by first | rfl | (apply zL_fi <;> first | assumption | decide) | (apply zR_fi <;> first | assumption | decide)) ?_
        rw [hR.2.2.2.2.1]
        refine go_iconst (nI 4) (pc := 66) dX4_readThing_66 (by decide) ?_
        refine go_icmp_ge 105 (pc := 67) dX4_readThing_67 (by decide) (fun h67 => ?_) (fun h67 => ?_)
        · first | rw [nI_leI (by omega) (by omega)] at h67 | rw [zi_leN (by omega)] at h67 | rw [zi_Nle (by omega)] at h67 | rw [zi_le] at h67
          have hmt : mT f lim p W S d c = (match am 2 (f p) with | some a => some (p + 1, false, W, S ++ [1000 + a], d, c) | none => none) := by unfold mT; rw [if_neg (by omega), if_neg (by omega), if_neg (by omega)]; cases am 2 (f p) <;> rfl
          rw [hmt]
          clear hmt
          cases ha : am 2 (f p) with
          | none =>
            refine go_iload (pc := 105) dX4_readThing_105 rfl ?_
            refine go_callS ml_X4_90 mt_X4_thingOf (pc := 107) dX4_readThing_107 (c_X4_thingOf hfp) (by decide) (by decide) rfl rfl (Nat.le_of_ble_eq_true rfl) (fun r σ' hp => ?_)
            obtain ⟨rfl, hσ⟩ := hp
            rw [hσ]
            clear hσ σ'
            dsimp only [zRet]
            rw [ha]
            refine go_istore (pc := 110) dX4_readThing_110 (by decide) ?_
            refine go_iload (pc := 112) dX4_readThing_112 rfl ?_
            refine go_bipush (-15) (pc := 114) dX4_readThing_114 (by decide) ?_
            refine go_icmp_ne 121 (pc := 116) dX4_readThing_116 (by decide) (fun h116 => ?_) (fun h116 => ?_)
            · exact absurd rfl h116
            · refine go_iconst (nI 0) (pc := 119) dX4_readThing_119 (by decide) ?_
              refine go_ireturn (pc := 120) dX4_readThing_120 rfl ?_
              exact ⟨rfl, trivial, FrG.rf⟩
          | some a =>
            refine go_iload (pc := 105) dX4_readThing_105 rfl ?_
            refine go_callS ml_X4_90 mt_X4_thingOf (pc := 107) dX4_readThing_107 (c_X4_thingOf hfp) (by decide) (by decide) rfl rfl (Nat.le_of_ble_eq_true rfl) (fun r σ' hp => ?_)
            obtain ⟨rfl, hσ⟩ := hp
            rw [hσ]
            clear hσ σ'
            dsimp only [zRet]
            rw [ha]
            refine go_istore (pc := 110) dX4_readThing_110 (by decide) ?_
            refine go_iload (pc := 112) dX4_readThing_112 rfl ?_
            refine go_bipush (-15) (pc := 114) dX4_readThing_114 (by decide) ?_
            refine go_icmp_ne 121 (pc := 116) dX4_readThing_116 (by decide) (fun h116 => ?_) (fun h116 => ?_)
            · refine go_aload_n (i := 0) (pc := 121) dX4_readThing_121 rfl rfl ?_
              refine go_iload (pc := 122) dX4_readThing_122 rfl ?_
              refine go_callV ml_X4_34 mt_X4_addStep (pc := 124) dX4_readThing_124 (c_X4_addStep (t := 1000 + a) hk hR (by omega)) (by first | rfl | (apply zL_cq <;> assumption) | (apply zR_cq <;> assumption)) rfl (by first | rfl | (apply zL_in <;> first | assumption | decide) | (apply zR_in <;> first | assumption | decide)) (by decide) (by decide) rfl rfl (Nat.le_of_ble_eq_true rfl) (fun r σ' hp => ?_)
              obtain ⟨rfl, hR1, hF1⟩ := hp
              dsimp only [zRet]
              refine go_aload_n (i := 0) (pc := 127) dX4_readThing_127 rfl rfl ?_
              refine go_iconst (nI 0) (pc := 128) dX4_readThing_128 (by decide) ?_
              refine go_puti fp_X4_47 (pc := 129) dX4_readThing_129 (by first | rfl | (apply zL_fi <;> first | assumption | decide) | (apply zR_fi <;> first | assumption | decide)) rfl rfl ?_
              refine go_iconst (nI 1) (pc := 132) dX4_readThing_132 (by decide) ?_
              refine go_ireturn (pc := 133) dX4_readThing_133 rfl ?_
              exact ⟨by show _ = some (Value.int (nI (p + 1 - p))); rw [Nat.add_sub_cancel_left], hR1.s8 (b := false), hF1.uS (by simp)⟩
            · exact absurd (show ctok (1000 + a) = -15 from h116) (ctok_15 (by omega))
        · first | rw [nI_leI (by omega) (by omega)] at h67 | rw [zi_leN (by omega)] at h67 | rw [zi_Nle (by omega)] at h67 | rw [zi_le] at h67
          refine go_aload_n (i := 0) (pc := 70) dX4_readThing_70 rfl rfl ?_
          refine go_bipush (-14) (pc := 71) dX4_readThing_71 (by decide) ?_
          refine go_callV ml_X4_87 mt_X4_addWaiting (pc := 73) dX4_readThing_73 (c_X4_addWaiting (t := 4000) hk hR (by omega) (Or.inr (Or.inr rfl))) (by first | rfl | (apply zL_cq <;> assumption) | (apply zR_cq <;> assumption)) rfl (by first | rfl | (apply zL_in <;> first | assumption | decide) | (apply zR_in <;> first | assumption | decide)) (by decide) (by decide) rfl rfl (Nat.le_of_ble_eq_true rfl) (fun r σ' hp => ?_)
          obtain ⟨rfl, hR1, hF1⟩ := hp
          dsimp only [zRet]
          refine go_aload_n (i := 0) (pc := 76) dX4_readThing_76 rfl rfl ?_
          refine go_dup (pc := 77) dX4_readThing_77 rfl ?_
          refine go_geti fl_X4_41 (pc := 78) dX4_readThing_78 (by first | rfl | (apply zL_fi <;> first | assumption | decide) | (apply zR_fi <;> first | assumption | decide)) ?_
          rw [hR1.2.2.2.2.1]
          refine go_iconst (nI 1) (pc := 81) dX4_readThing_81 (by decide) ?_
          first | with_reducible refine go_iaddN (pc := 82) dX4_readThing_82 ?_ | refine go_iadd (pc := 82) dX4_readThing_82 ?_
          refine go_puti fp_X4_41 (pc := 83) dX4_readThing_83 (by first | rfl | (apply zL_fi <;> first | assumption | decide) | (apply zR_fi <;> first | assumption | decide)) rfl rfl ?_
          refine go_aload_n (i := 0) (pc := 86) dX4_readThing_86 rfl rfl ?_
          refine go_dup (pc := 87) dX4_readThing_87 rfl ?_
          refine go_geti fl_X4_44 (pc := 88) dX4_readThing_88 (by first | rfl | (apply zL_fi <;> first | assumption | decide) | (apply zR_fi <;> first | assumption | decide)) ?_
          rw [(hR1.s6 (d2 := d + 1)).2.2.2.2.2.1]
          refine go_iconst (nI 1) (pc := 91) dX4_readThing_91 (by decide) ?_
          refine go_aload_n (i := 0) (pc := 92) dX4_readThing_92 rfl rfl ?_
          refine go_geti fl_X4_41 (pc := 93) dX4_readThing_93 (by first | rfl | (apply zL_fi <;> first | assumption | decide) | (apply zR_fi <;> first | assumption | decide)) ?_
          rw [(hR1.s6 (d2 := d + 1)).2.2.2.2.1]
          refine go_ishl (pc := 96) dX4_readThing_96 ?_
          refine go_iconst (-1) (pc := 97) dX4_readThing_97 (by decide) ?_
          refine go_ixor (pc := 98) dX4_readThing_98 ?_
          refine go_iand (pc := 99) dX4_readThing_99 ?_
          rw [bc_clr c (by omega)]
          refine go_puti fp_X4_44 (pc := 100) dX4_readThing_100 (by first | rfl | (apply zL_fi <;> first | assumption | decide) | (apply zR_fi <;> first | assumption | decide)) rfl rfl ?_
          refine go_iconst (nI 1) (pc := 103) dX4_readThing_103 (by decide) ?_
          refine go_ireturn (pc := 104) dX4_readThing_104 rfl ?_
          rw [show mT f lim p W S d c = some (p + 1, true, 4000 :: W, S, d + 1, upc c (d + 1) false) by unfold mT; rw [if_neg (by omega), if_neg (by omega), if_pos (by omega)]]
          exact ⟨by show _ = some (Value.int (nI (p + 1 - p))); rw [Nat.add_sub_cancel_left], (hR1.s6 (d2 := d + 1)).s7 (c2 := upc c (d + 1) false) rfl, (hF1.uS (by simp)).uS (by simp)⟩
    · first | rw [nI_eq (by omega) (by omega)] at h44 | rw [zi_eqN (by omega)] at h44 | rw [zi_Neq (by omega)] at h44 | rw [zi_eq] at h44
      refine go_aload_n (i := 0) (pc := 47) dX4_readThing_47 rfl rfl ?_
      refine go_bipush (-6) (pc := 48) dX4_readThing_48 (by decide) ?_
      refine go_callV ml_X4_87 mt_X4_addWaiting (pc := 50) dX4_readThing_50 (c_X4_addWaiting (t := 3000) hk hR (by omega) (Or.inr (Or.inl rfl))) (by first | rfl | (apply zL_cq <;> assumption) | (apply zR_cq <;> assumption)) rfl (by first | rfl | (apply zL_in <;> first | assumption | decide) | (apply zR_in <;> first | assumption | decide)) (by decide) (by decide) rfl rfl (Nat.le_of_ble_eq_true rfl) (fun r σ' hp => ?_)
      obtain ⟨rfl, hR1, hF1⟩ := hp
      dsimp only [zRet]
      refine go_iconst (nI 1) (pc := 53) dX4_readThing_53 (by decide) ?_
      refine go_ireturn (pc := 54) dX4_readThing_54 rfl ?_
      rw [show mT f lim p W S d c = some (p + 1, true, 3000 :: W, S, d, c) by unfold mT; rw [if_neg (by omega), if_pos (by omega)]]
      exact ⟨by show _ = some (Value.int (nI (p + 1 - p))); rw [Nat.add_sub_cancel_left], hR1, hF1⟩
  · first | rw [zb_0d] at h11 | rw [zn_le0 (by omega)] at h11 | rw [zi_le0] at h11
    refine go_aload_n (i := 0) (pc := 14) dX4_readThing_14 rfl rfl ?_
    refine go_aload_n (i := 1) (pc := 15) dX4_readThing_15 rfl rfl ?_
    refine go_iload_n (i := 2) (pc := 16) dX4_readThing_16 rfl rfl ?_
    refine go_iload (pc := 17) dX4_readThing_17 rfl ?_
    refine go_callV ml_X4_84 mt_X8_number (pc := 19) dX4_readThing_19 (c_X8_number hT hdl (by have := (tDig_p (f := f) (lim := lim) (p := p) (hdi 0 (by omega))).2; omega) (fun i hi => (hdi i hi).2)) (by first | rfl | (apply zL_cq <;> assumption) | (apply zR_cq <;> assumption)) rfl (by first | rfl | (apply zL_in <;> first | assumption | decide) | (apply zR_in <;> first | assumption | decide)) (by decide) (by decide) rfl rfl (Nat.le_of_ble_eq_true rfl) (fun r σ' hp => ?_)
    obtain ⟨rfl, hσ⟩ := hp
    rw [hσ]
    clear hσ σ'
    dsimp only [zRet]
    rw [← ctok_num hdn]
    refine go_callV ml_X4_34 mt_X4_addStep (pc := 22) dX4_readThing_22 (c_X4_addStep hk hR (by omega)) (by first | rfl | (apply zL_cq <;> assumption) | (apply zR_cq <;> assumption)) rfl (by first | rfl | (apply zL_in <;> first | assumption | decide) | (apply zR_in <;> first | assumption | decide)) (by decide) (by decide) rfl rfl (Nat.le_of_ble_eq_true rfl) (fun r σ' hp => ?_)
    obtain ⟨rfl, hR1, hF1⟩ := hp
    dsimp only [zRet]
    refine go_aload_n (i := 0) (pc := 25) dX4_readThing_25 rfl rfl ?_
    refine go_iconst (nI 0) (pc := 26) dX4_readThing_26 (by decide) ?_
    refine go_puti fp_X4_47 (pc := 27) dX4_readThing_27 (by first | rfl | (apply zL_fi <;> first | assumption | decide) | (apply zR_fi <;> first | assumption | decide)) rfl rfl ?_
    refine go_iload (pc := 30) dX4_readThing_30 rfl ?_
    refine go_ireturn (pc := 32) dX4_readThing_32 rfl ?_
    rw [show mT f lim p W S d c = some (p + tDig f lim p 3, false, W, S ++ [tNum f p (tDig f lim p 3) 0], d, c) by unfold mT; rw [if_pos (by omega)]]
    exact ⟨by show _ = some (Value.int (nI (p + tDig f lim p 3 - p))); rw [Nat.add_sub_cancel_left], hR1.s8 (b := false), hF1.uS (by simp)⟩

theorem c_X4_readAct {E : zE} {σ : zT} {k d p : Nat} {W S : List Nat} {c : Nat → Bool} {f : Nat → Nat} (hk : zRl k = true) (hv : f p < 256) (hp : p < 40) (hR : RdIs σ k false W S d c) (hl : S.length + W.length ≤ p) (hd : d ≤ 4) : CalM E 2 yX4_readAct cX4_readAct 3 (some .int) [.ref (zA E k 0), .int (nI (f p))] σ (fun r σ' => r = some (.int (stpA p (mA f p W S d c))) ∧ stpR σ' k (mA f p W S d c) ∧ FrG [k] σ σ') := by
  refine cal_of_go (own := RX4) rfl (by decide +kernel) (Nat.le_of_ble_eq_true rfl) ?_
  refine go_iload_n (i := 1) (pc := 0) dX4_readAct_0 rfl rfl ?_
  refine go_bipush (nI 41) (pc := 1) dX4_readAct_1 (by decide) ?_
  refine go_icmp_ne 48 (pc := 3) dX4_readAct_3 (by decide) (fun h3 => ?_) (fun h3 => ?_)
  · first | rw [nI_eq (by omega) (by omega)] at h3 | rw [zi_eqN (by omega)] at h3 | rw [zi_Neq (by omega)] at h3 | rw [zi_eq] at h3
    have hma : mA f p W S d c = (match acT (f p) with | none => none | some t => if rkT t = 1 then (if c d = true then none else some (p + 1, true, t :: (popS 1 W S).1, (popS 1 W S).2, d, upc c d true)) else some (p + 1, true, t :: (popS (rkT t) W S).1, (popS (rkT t) W S).2, d, c)) := by unfold mA; rw [if_neg (by omega)]; cases acT (f p) <;> rfl
    rw [hma]
    clear hma
    cases ha : acT (f p) with
    | none =>
      dsimp only
      refine go_iload_n (i := 1) (pc := 48) dX4_readAct_48 rfl rfl ?_
      refine go_callS ml_X4_96 mt_X4_actOf (pc := 49) dX4_readAct_49 (c_X4_actOf hv) (by decide) (by decide) rfl rfl (Nat.le_of_ble_eq_true rfl) (fun r σ' hp => ?_)
      obtain ⟨rfl, hσ⟩ := hp
      rw [hσ]
      clear hσ σ'
      dsimp only [zRet]
      rw [ha]
      refine go_istore_n (i := 2) (pc := 52) dX4_readAct_52 rfl (by decide) ?_
      refine go_iload_n (i := 2) (pc := 53) dX4_readAct_53 rfl rfl ?_
      refine go_bipush (-15) (pc := 54) dX4_readAct_54 (by decide) ?_
      refine go_icmp_ne 61 (pc := 56) dX4_readAct_56 (by decide) (fun h56 => ?_) (fun h56 => ?_)
      · exact absurd rfl h56
      · refine go_iconst (nI 0) (pc := 59) dX4_readAct_59 (by decide) ?_
        refine go_ireturn (pc := 60) dX4_readAct_60 rfl ?_
        exact ⟨rfl, trivial, FrG.rf⟩
    | some t =>
      have htk := acT_tok ha
      have htr := acT_rk ha
      dsimp only
      by_cases hr1 : rkT t = 1
      · rw [if_pos hr1]
        by_cases hcd : c d = true
        · rw [if_pos hcd]
          refine go_iload_n (i := 1) (pc := 48) dX4_readAct_48 rfl rfl ?_
          refine go_callS ml_X4_96 mt_X4_actOf (pc := 49) dX4_readAct_49 (c_X4_actOf hv) (by decide) (by decide) rfl rfl (Nat.le_of_ble_eq_true rfl) (fun r σ' hp => ?_)
          obtain ⟨rfl, hσ⟩ := hp
          rw [hσ]
          clear hσ σ'
          dsimp only [zRet]
          rw [ha]
          dsimp only
          rw [← ctw_c (by omega)]
          refine go_istore_n (i := 2) (pc := 52) dX4_readAct_52 rfl (by decide) ?_
          refine go_iload_n (i := 2) (pc := 53) dX4_readAct_53 rfl rfl ?_
          refine go_bipush (-15) (pc := 54) dX4_readAct_54 (by decide) ?_
          refine go_icmp_ne 61 (pc := 56) dX4_readAct_56 (by decide) (fun h56 => ?_) (fun h56 => ?_)
          · refine go_iload_n (i := 2) (pc := 61) dX4_readAct_61 rfl rfl ?_
            refine go_callS ml_X4_74 mt_X4_rank (pc := 62) dX4_readAct_62 (c_X4_rank (t := t) (Or.inl htk)) (by decide) (by decide) rfl rfl (Nat.le_of_ble_eq_true rfl) (fun r σ' hp => ?_)
            obtain ⟨rfl, hσ⟩ := hp
            rw [hσ]
            clear hσ σ'
            dsimp only [zRet]
            refine go_bipush (-11) (pc := 65) dX4_readAct_65 (by decide) ?_
            refine go_callS ml_X4_74 mt_X4_rank (pc := 67) dX4_readAct_67 (c_X4_rank2000) (by decide) (by decide) rfl rfl (Nat.le_of_ble_eq_true rfl) (fun r σ' hp => ?_)
            obtain ⟨rfl, hσ⟩ := hp
            rw [hσ]
            clear hσ σ'
            dsimp only [zRet]
            rw [show rkT 2000 = 1 from rfl]
            refine go_icmp_ne 104 (pc := 70) dX4_readAct_70 (by decide) (fun h70 => ?_) (fun h70 => ?_)
            · first | rw [nI_eq (by omega) (by omega)] at h70 | rw [zi_eqN (by omega)] at h70 | rw [zi_Neq (by omega)] at h70 | rw [zi_eq] at h70
              exfalso
              omega
            · first | rw [nI_eq (by omega) (by omega)] at h70 | rw [zi_eqN (by omega)] at h70 | rw [zi_Neq (by omega)] at h70 | rw [zi_eq] at h70
              refine go_aload_n (i := 0) (pc := 73) dX4_readAct_73 rfl rfl ?_
              refine go_geti fl_X4_44 (pc := 74) dX4_readAct_74 (by first | rfl | (apply zL_fi <;> first | assumption | decide) | (apply zR_fi <;> first | assumption | decide)) ?_
              rw [hR.2.2.2.2.2.1]
              refine go_aload_n (i := 0) (pc := 77) dX4_readAct_77 rfl rfl ?_
              refine go_geti fl_X4_41 (pc := 78) dX4_readAct_78 (by first | rfl | (apply zL_fi <;> first | assumption | decide) | (apply zR_fi <;> first | assumption | decide)) ?_
              rw [hR.2.2.2.2.1]
              refine go_ishr (pc := 81) dX4_readAct_81 ?_
              refine go_iconst (nI 1) (pc := 82) dX4_readAct_82 (by decide) ?_
              refine go_iand (pc := 83) dX4_readAct_83 ?_
              rw [bc_tst c (by omega)]
              refine go_if_eq 89 (pc := 84) dX4_readAct_84 (by decide) (fun h84 => ?_) (fun h84 => ?_)
              · exact absurd ((zb_0 _).mp h84) (by rw [hcd]; decide)
              · refine go_iconst (nI 0) (pc := 87) dX4_readAct_87 (by decide) ?_
                refine go_ireturn (pc := 88) dX4_readAct_88 rfl ?_
                exact ⟨rfl, trivial, FrG.rf⟩
          · exact absurd (show ctw t = -15 from h56) (by rw [ctw_c (by omega)]; exact ctok_15 (by omega))
        · rw [if_neg hcd]
          refine go_iload_n (i := 1) (pc := 48) dX4_readAct_48 rfl rfl ?_
          refine go_callS ml_X4_96 mt_X4_actOf (pc := 49) dX4_readAct_49 (c_X4_actOf hv) (by decide) (by decide) rfl rfl (Nat.le_of_ble_eq_true rfl) (fun r σ' hp => ?_)
          obtain ⟨rfl, hσ⟩ := hp
          rw [hσ]
          clear hσ σ'
          dsimp only [zRet]
          rw [ha]
          dsimp only
          rw [← ctw_c (by omega)]
          refine go_istore_n (i := 2) (pc := 52) dX4_readAct_52 rfl (by decide) ?_
          refine go_iload_n (i := 2) (pc := 53) dX4_readAct_53 rfl rfl ?_
          refine go_bipush (-15) (pc := 54) dX4_readAct_54 (by decide) ?_
          refine go_icmp_ne 61 (pc := 56) dX4_readAct_56 (by decide) (fun h56 => ?_) (fun h56 => ?_)
          · refine go_iload_n (i := 2) (pc := 61) dX4_readAct_61 rfl rfl ?_
            refine go_callS ml_X4_74 mt_X4_rank (pc := 62) dX4_readAct_62 (c_X4_rank (t := t) (Or.inl htk)) (by decide) (by decide) rfl rfl (Nat.le_of_ble_eq_true rfl) (fun r σ' hp => ?_)
            obtain ⟨rfl, hσ⟩ := hp
            rw [hσ]
            clear hσ σ'
            dsimp only [zRet]
            refine go_bipush (-11) (pc := 65) dX4_readAct_65 (by decide) ?_
            refine go_callS ml_X4_74 mt_X4_rank (pc := 67) dX4_readAct_67 (c_X4_rank2000) (by decide) (by decide) rfl rfl (Nat.le_of_ble_eq_true rfl) (fun r σ' hp => ?_)
            obtain ⟨rfl, hσ⟩ := hp
            rw [hσ]
            clear hσ σ'
            dsimp only [zRet]
            rw [show rkT 2000 = 1 from rfl]
            refine go_icmp_ne 104 (pc := 70) dX4_readAct_70 (by decide) (fun h70 => ?_) (fun h70 => ?_)
            · first | rw [nI_eq (by omega) (by omega)] at h70 | rw [zi_eqN (by omega)] at h70 | rw [zi_Neq (by omega)] at h70 | rw [zi_eq] at h70
              exfalso
              omega
            · first | rw [nI_eq (by omega) (by omega)] at h70 | rw [zi_eqN (by omega)] at h70 | rw [zi_Neq (by omega)] at h70 | rw [zi_eq] at h70
              refine go_aload_n (i := 0) (pc := 73) dX4_readAct_73 rfl rfl ?_
              refine go_geti fl_X4_44 (pc := 74) dX4_readAct_74 (by first | rfl | (apply zL_fi <;> first | assumption | decide) | (apply zR_fi <;> first | assumption | decide)) ?_
              rw [hR.2.2.2.2.2.1]
              refine go_aload_n (i := 0) (pc := 77) dX4_readAct_77 rfl rfl ?_
              refine go_geti fl_X4_41 (pc := 78) dX4_readAct_78 (by first | rfl | (apply zL_fi <;> first | assumption | decide) | (apply zR_fi <;> first | assumption | decide)) ?_
              rw [hR.2.2.2.2.1]
              refine go_ishr (pc := 81) dX4_readAct_81 ?_
              refine go_iconst (nI 1) (pc := 82) dX4_readAct_82 (by decide) ?_
              refine go_iand (pc := 83) dX4_readAct_83 ?_
              rw [bc_tst c (by omega)]
              refine go_if_eq 89 (pc := 84) dX4_readAct_84 (by decide) (fun h84 => ?_) (fun h84 => ?_)
              · refine go_aload_n (i := 0) (pc := 89) dX4_readAct_89 rfl rfl ?_
                refine go_dup (pc := 90) dX4_readAct_90 rfl ?_
                refine go_geti fl_X4_44 (pc := 91) dX4_readAct_91 (by first | rfl | (apply zL_fi <;> first | assumption | decide) | (apply zR_fi <;> first | assumption | decide)) ?_
                rw [hR.2.2.2.2.2.1]
                refine go_iconst (nI 1) (pc := 94) dX4_readAct_94 (by decide) ?_
                refine go_aload_n (i := 0) (pc := 95) dX4_readAct_95 rfl rfl ?_
                refine go_geti fl_X4_41 (pc := 96) dX4_readAct_96 (by first | rfl | (apply zL_fi <;> first | assumption | decide) | (apply zR_fi <;> first | assumption | decide)) ?_
                rw [hR.2.2.2.2.1]
                refine go_ishl (pc := 99) dX4_readAct_99 ?_
                refine go_ior (pc := 100) dX4_readAct_100 ?_
                rw [bc_set c (by omega)]
                refine go_puti fp_X4_44 (pc := 101) dX4_readAct_101 (by first | rfl | (apply zL_fi <;> first | assumption | decide) | (apply zR_fi <;> first | assumption | decide)) rfl rfl ?_
                refine go_aload_n (i := 0) (pc := 104) dX4_readAct_104 rfl rfl ?_
                refine go_iload_n (i := 2) (pc := 105) dX4_readAct_105 rfl rfl ?_
                refine go_callS ml_X4_74 mt_X4_rank (pc := 106) dX4_readAct_106 (c_X4_rank (t := t) (Or.inl htk)) (by decide) (by decide) rfl rfl (Nat.le_of_ble_eq_true rfl) (fun r σ' hp => ?_)
                obtain ⟨rfl, hσ⟩ := hp
                rw [hσ]
                clear hσ σ'
                dsimp only [zRet]
                refine go_callV ml_X4_77 mt_X4_placeWaiting (pc := 109) dX4_readAct_109 (c_X4_placeWaiting (r1 := rkT t) hk (by omega) (by omega) (hR.s7 (c2 := upc c d true) rfl) (by omega)) (by first | rfl | (apply zL_cq <;> assumption) | (apply zR_cq <;> assumption)) rfl (by first | rfl | (apply zL_in <;> first | assumption | decide) | (apply zR_in <;> first | assumption | decide)) (by decide) (by decide) rfl rfl (Nat.le_of_ble_eq_true rfl) (fun r σ' hp => ?_)
                obtain ⟨rfl, hR1, hF1⟩ := hp
                dsimp only [zRet]
                have hpl := popS_len (rkT t) W S
                refine go_aload_n (i := 0) (pc := 112) dX4_readAct_112 rfl rfl ?_
                refine go_iload_n (i := 2) (pc := 113) dX4_readAct_113 rfl rfl ?_
                refine go_callV ml_X4_87 mt_X4_addWaiting (pc := 114) dX4_readAct_114 (c_X4_addWaiting (t := t) hk hR1 (by omega) (Or.inl htk)) (by first | rfl | (apply zL_cq <;> assumption) | (apply zR_cq <;> assumption)) rfl (by first | rfl | (apply zL_in <;> first | assumption | decide) | (apply zR_in <;> first | assumption | decide)) (by decide) (by decide) rfl rfl (Nat.le_of_ble_eq_true rfl) (fun r σ' hp => ?_)
                obtain ⟨rfl, hR2, hF2⟩ := hp
                dsimp only [zRet]
                refine go_aload_n (i := 0) (pc := 117) dX4_readAct_117 rfl rfl ?_
                refine go_iconst (nI 1) (pc := 118) dX4_readAct_118 (by decide) ?_
                refine go_puti fp_X4_47 (pc := 119) dX4_readAct_119 (by first | rfl | (apply zL_fi <;> first | assumption | decide) | (apply zR_fi <;> first | assumption | decide)) rfl rfl ?_
                refine go_iconst (nI 1) (pc := 122) dX4_readAct_122 (by decide) ?_
                refine go_ireturn (pc := 123) dX4_readAct_123 rfl ?_
                rw [hr1] at hR2
                exact ⟨by show _ = some (Value.int (nI (p + 1 - p))); rw [Nat.add_sub_cancel_left], hR2.s8 (b := true), (((FrG.rf.uS (by simp)).tr hF1).tr hF2).uS (by simp)⟩
              · exact absurd ((zb_0 _).mpr (Bool.eq_false_iff.mpr hcd)) h84
          · exact absurd (show ctw t = -15 from h56) (by rw [ctw_c (by omega)]; exact ctok_15 (by omega))
      · rw [if_neg hr1]
        refine go_iload_n (i := 1) (pc := 48) dX4_readAct_48 rfl rfl ?_
        refine go_callS ml_X4_96 mt_X4_actOf (pc := 49) dX4_readAct_49 (c_X4_actOf hv) (by decide) (by decide) rfl rfl (Nat.le_of_ble_eq_true rfl) (fun r σ' hp => ?_)
        obtain ⟨rfl, hσ⟩ := hp
        rw [hσ]
        clear hσ σ'
        dsimp only [zRet]
        rw [ha]
        dsimp only
        rw [← ctw_c (by omega)]
        refine go_istore_n (i := 2) (pc := 52) dX4_readAct_52 rfl (by decide) ?_
        refine go_iload_n (i := 2) (pc := 53) dX4_readAct_53 rfl rfl ?_
        refine go_bipush (-15) (pc := 54) dX4_readAct_54 (by decide) ?_
        refine go_icmp_ne 61 (pc := 56) dX4_readAct_56 (by decide) (fun h56 => ?_) (fun h56 => ?_)
        · refine go_iload_n (i := 2) (pc := 61) dX4_readAct_61 rfl rfl ?_
          refine go_callS ml_X4_74 mt_X4_rank (pc := 62) dX4_readAct_62 (c_X4_rank (t := t) (Or.inl htk)) (by decide) (by decide) rfl rfl (Nat.le_of_ble_eq_true rfl) (fun r σ' hp => ?_)
          obtain ⟨rfl, hσ⟩ := hp
          rw [hσ]
          clear hσ σ'
          dsimp only [zRet]
          refine go_bipush (-11) (pc := 65) dX4_readAct_65 (by decide) ?_
          refine go_callS ml_X4_74 mt_X4_rank (pc := 67) dX4_readAct_67 (c_X4_rank2000) (by decide) (by decide) rfl rfl (Nat.le_of_ble_eq_true rfl) (fun r σ' hp => ?_)
          obtain ⟨rfl, hσ⟩ := hp
          rw [hσ]
          clear hσ σ'
          dsimp only [zRet]
          rw [show rkT 2000 = 1 from rfl]
          refine go_icmp_ne 104 (pc := 70) dX4_readAct_70 (by decide) (fun h70 => ?_) (fun h70 => ?_)
          · first | rw [nI_eq (by omega) (by omega)] at h70 | rw [zi_eqN (by omega)] at h70 | rw [zi_Neq (by omega)] at h70 | rw [zi_eq] at h70
            refine go_aload_n (i := 0) (pc := 104) dX4_readAct_104 rfl rfl ?_
            refine go_iload_n (i := 2) (pc := 105) dX4_readAct_105 rfl rfl ?_
            refine go_callS ml_X4_74 mt_X4_rank (pc := 106) dX4_readAct_106 (c_X4_rank (t := t) (Or.inl htk)) (by decide) (by decide) rfl rfl (Nat.le_of_ble_eq_true rfl) (fun r σ' hp => ?_)
            obtain ⟨rfl, hσ⟩ := hp
            rw [hσ]
            clear hσ σ'
            dsimp only [zRet]
            refine go_callV ml_X4_77 mt_X4_placeWaiting (pc := 109) dX4_readAct_109 (c_X4_placeWaiting (r1 := rkT t) hk (by omega) (by omega) hR (by omega)) (by first | rfl | (apply zL_cq <;> assumption) | (apply zR_cq <;> assumption)) rfl (by first | rfl | (apply zL_in <;> first | assumption | decide) | (apply zR_in <;> first | assumption | decide)) (by decide) (by decide) rfl rfl (Nat.le_of_ble_eq_true rfl) (fun r σ' hp => ?_)
            obtain ⟨rfl, hR1, hF1⟩ := hp
            dsimp only [zRet]
            have hpl := popS_len (rkT t) W S
            refine go_aload_n (i := 0) (pc := 112) dX4_readAct_112 rfl rfl ?_
            refine go_iload_n (i := 2) (pc := 113) dX4_readAct_113 rfl rfl ?_
            refine go_callV ml_X4_87 mt_X4_addWaiting (pc := 114) dX4_readAct_114 (c_X4_addWaiting (t := t) hk hR1 (by omega) (Or.inl htk)) (by first | rfl | (apply zL_cq <;> assumption) | (apply zR_cq <;> assumption)) rfl (by first | rfl | (apply zL_in <;> first | assumption | decide) | (apply zR_in <;> first | assumption | decide)) (by decide) (by decide) rfl rfl (Nat.le_of_ble_eq_true rfl) (fun r σ' hp => ?_)
            obtain ⟨rfl, hR2, hF2⟩ := hp
            dsimp only [zRet]
            refine go_aload_n (i := 0) (pc := 117) dX4_readAct_117 rfl rfl ?_
            refine go_iconst (nI 1) (pc := 118) dX4_readAct_118 (by decide) ?_
            refine go_puti fp_X4_47 (pc := 119) dX4_readAct_119 (by first | rfl | (apply zL_fi <;> first | assumption | decide) | (apply zR_fi <;> first | assumption | decide)) rfl rfl ?_
            refine go_iconst (nI 1) (pc := 122) dX4_readAct_122 (by decide) ?_
            refine go_ireturn (pc := 123) dX4_readAct_123 rfl ?_
            exact ⟨by show _ = some (Value.int (nI (p + 1 - p))); rw [Nat.add_sub_cancel_left], hR2.s8 (b := true), (hF1.tr hF2).uS (by simp)⟩
          · first | rw [nI_eq (by omega) (by omega)] at h70 | rw [zi_eqN (by omega)] at h70 | rw [zi_Neq (by omega)] at h70 | rw [zi_eq] at h70
            exfalso
            omega
        · exact absurd (show ctw t = -15 from h56) (by rw [ctw_c (by omega)]; exact ctok_15 (by omega))
  · first | rw [nI_eq (by omega) (by omega)] at h3 | rw [zi_eqN (by omega)] at h3 | rw [zi_Neq (by omega)] at h3 | rw [zi_eq] at h3
    refine go_aload_n (i := 0) (pc := 6) dX4_readAct_6 rfl rfl ?_
    refine go_geti fl_X4_41 (pc := 7) dX4_readAct_7 (by first | rfl | (apply zL_fi <;> first | assumption | decide) | (apply zR_fi <;> first | assumption | decide)) ?_
    rw [hR.2.2.2.2.1]
    refine go_if_le 48 (pc := 10) dX4_readAct_10 (by decide) (fun h10 => ?_) (fun h10 => ?_)
    · first | rw [zb_0d] at h10 | rw [zn_le0 (by omega)] at h10 | rw [zi_le0] at h10
      have hma : mA f p W S d c = (match acT (f p) with | none => none | some t => if rkT t = 1 then (if c d = true then none else some (p + 1, true, t :: (popS 1 W S).1, (popS 1 W S).2, d, upc c d true)) else some (p + 1, true, t :: (popS (rkT t) W S).1, (popS (rkT t) W S).2, d, c)) := by unfold mA; rw [if_neg (by omega)]; cases acT (f p) <;> rfl
      rw [hma]
      clear hma
      cases ha : acT (f p) with
      | none =>
        dsimp only
        refine go_iload_n (i := 1) (pc := 48) dX4_readAct_48 rfl rfl ?_
        refine go_callS ml_X4_96 mt_X4_actOf (pc := 49) dX4_readAct_49 (c_X4_actOf hv) (by decide) (by decide) rfl rfl (Nat.le_of_ble_eq_true rfl) (fun r σ' hp => ?_)
        obtain ⟨rfl, hσ⟩ := hp
        rw [hσ]
        clear hσ σ'
        dsimp only [zRet]
        rw [ha]
        refine go_istore_n (i := 2) (pc := 52) dX4_readAct_52 rfl (by decide) ?_
        refine go_iload_n (i := 2) (pc := 53) dX4_readAct_53 rfl rfl ?_
        refine go_bipush (-15) (pc := 54) dX4_readAct_54 (by decide) ?_
        refine go_icmp_ne 61 (pc := 56) dX4_readAct_56 (by decide) (fun h56 => ?_) (fun h56 => ?_)
        · exact absurd rfl h56
        · refine go_iconst (nI 0) (pc := 59) dX4_readAct_59 (by decide) ?_
          refine go_ireturn (pc := 60) dX4_readAct_60 rfl ?_
          exact ⟨rfl, trivial, FrG.rf⟩
      | some t =>
        have htk := acT_tok ha
        have htr := acT_rk ha
        dsimp only
        by_cases hr1 : rkT t = 1
        · rw [if_pos hr1]
          by_cases hcd : c d = true
          · rw [if_pos hcd]
            refine go_iload_n (i := 1) (pc := 48) dX4_readAct_48 rfl rfl ?_
            refine go_callS ml_X4_96 mt_X4_actOf (pc := 49) dX4_readAct_49 (c_X4_actOf hv) (by decide) (by decide) rfl rfl (Nat.le_of_ble_eq_true rfl) (fun r σ' hp => ?_)
            obtain ⟨rfl, hσ⟩ := hp
            rw [hσ]
            clear hσ σ'
            dsimp only [zRet]
            rw [ha]
            dsimp only
            rw [← ctw_c (by omega)]
            refine go_istore_n (i := 2) (pc := 52) dX4_readAct_52 rfl (by decide) ?_
            refine go_iload_n (i := 2) (pc := 53) dX4_readAct_53 rfl rfl ?_
            refine go_bipush (-15) (pc := 54) dX4_readAct_54 (by decide) ?_
            refine go_icmp_ne 61 (pc := 56) dX4_readAct_56 (by decide) (fun h56 => ?_) (fun h56 => ?_)
            · refine go_iload_n (i := 2) (pc := 61) dX4_readAct_61 rfl rfl ?_
              refine go_callS ml_X4_74 mt_X4_rank (pc := 62) dX4_readAct_62 (c_X4_rank (t := t) (Or.inl htk)) (by decide) (by decide) rfl rfl (Nat.le_of_ble_eq_true rfl) (fun r σ' hp => ?_)
              obtain ⟨rfl, hσ⟩ := hp
              rw [hσ]
              clear hσ σ'
              dsimp only [zRet]
              refine go_bipush (-11) (pc := 65) dX4_readAct_65 (by decide) ?_
              refine go_callS ml_X4_74 mt_X4_rank (pc := 67) dX4_readAct_67 (c_X4_rank2000) (by decide) (by decide) rfl rfl (Nat.le_of_ble_eq_true rfl) (fun r σ' hp => ?_)
              obtain ⟨rfl, hσ⟩ := hp
              rw [hσ]
              clear hσ σ'
              dsimp only [zRet]
              rw [show rkT 2000 = 1 from rfl]
              refine go_icmp_ne 104 (pc := 70) dX4_readAct_70 (by decide) (fun h70 => ?_) (fun h70 => ?_)
              · first | rw [nI_eq (by omega) (by omega)] at h70 | rw [zi_eqN (by omega)] at h70 | rw [zi_Neq (by omega)] at h70 | rw [zi_eq] at h70
                exfalso
                omega
              · first | rw [nI_eq (by omega) (by omega)] at h70 | rw [zi_eqN (by omega)] at h70 | rw [zi_Neq (by omega)] at h70 | rw [zi_eq] at h70
                refine go_aload_n (i := 0) (pc := 73) dX4_readAct_73 rfl rfl ?_
                refine go_geti fl_X4_44 (pc := 74) dX4_readAct_74 (by first | rfl | (apply zL_fi <;> first | assumption | decide) | (apply zR_fi <;> first | assumption | decide)) ?_
                rw [hR.2.2.2.2.2.1]
                refine go_aload_n (i := 0) (pc := 77) dX4_readAct_77 rfl rfl ?_
                refine go_geti fl_X4_41 (pc := 78) dX4_readAct_78 (by first | rfl | (apply zL_fi <;> first | assumption | decide) | (apply zR_fi <;> first | assumption | decide)) ?_
                rw [hR.2.2.2.2.1]
                refine go_ishr (pc := 81) dX4_readAct_81 ?_
                refine go_iconst (nI 1) (pc := 82) dX4_readAct_82 (by decide) ?_
                refine go_iand (pc := 83) dX4_readAct_83 ?_
                rw [bc_tst c (by omega)]
                refine go_if_eq 89 (pc := 84) dX4_readAct_84 (by decide) (fun h84 => ?_) (fun h84 => ?_)
                · exact absurd ((zb_0 _).mp h84) (by rw [hcd]; decide)
                · refine go_iconst (nI 0) (pc := 87) dX4_readAct_87 (by decide) ?_
                  refine go_ireturn (pc := 88) dX4_readAct_88 rfl ?_
                  exact ⟨rfl, trivial, FrG.rf⟩
            · exact absurd (show ctw t = -15 from h56) (by rw [ctw_c (by omega)]; exact ctok_15 (by omega))
          · rw [if_neg hcd]
            refine go_iload_n (i := 1) (pc := 48) dX4_readAct_48 rfl rfl ?_
            refine go_callS ml_X4_96 mt_X4_actOf (pc := 49) dX4_readAct_49 (c_X4_actOf hv) (by decide) (by decide) rfl rfl (Nat.le_of_ble_eq_true rfl) (fun r σ' hp => ?_)
            obtain ⟨rfl, hσ⟩ := hp
            rw [hσ]
            clear hσ σ'
            dsimp only [zRet]
            rw [ha]
            dsimp only
            rw [← ctw_c (by omega)]
            refine go_istore_n (i := 2) (pc := 52) dX4_readAct_52 rfl (by decide) ?_
            refine go_iload_n (i := 2) (pc := 53) dX4_readAct_53 rfl rfl ?_
            refine go_bipush (-15) (pc := 54) dX4_readAct_54 (by decide) ?_
            refine go_icmp_ne 61 (pc := 56) dX4_readAct_56 (by decide) (fun h56 => ?_) (fun h56 => ?_)
            · refine go_iload_n (i := 2) (pc := 61) dX4_readAct_61 rfl rfl ?_
              refine go_callS ml_X4_74 mt_X4_rank (pc := 62) dX4_readAct_62 (c_X4_rank (t := t) (Or.inl htk)) (by decide) (by decide) rfl rfl (Nat.le_of_ble_eq_true rfl) (fun r σ' hp => ?_)
              obtain ⟨rfl, hσ⟩ := hp
              rw [hσ]
              clear hσ σ'
              dsimp only [zRet]
              refine go_bipush (-11) (pc := 65) dX4_readAct_65 (by decide) ?_
              refine go_callS ml_X4_74 mt_X4_rank (pc := 67) dX4_readAct_67 (c_X4_rank2000) (by decide) (by decide) rfl rfl (Nat.le_of_ble_eq_true rfl) (fun r σ' hp => ?_)
              obtain ⟨rfl, hσ⟩ := hp
              rw [hσ]
              clear hσ σ'
              dsimp only [zRet]
              rw [show rkT 2000 = 1 from rfl]
              refine go_icmp_ne 104 (pc := 70) dX4_readAct_70 (by decide) (fun h70 => ?_) (fun h70 => ?_)
              · first | rw [nI_eq (by omega) (by omega)] at h70 | rw [zi_eqN (by omega)] at h70 | rw [zi_Neq (by omega)] at h70 | rw [zi_eq] at h70
                exfalso
                omega
              · first | rw [nI_eq (by omega) (by omega)] at h70 | rw [zi_eqN (by omega)] at h70 | rw [zi_Neq (by omega)] at h70 | rw [zi_eq] at h70
                refine go_aload_n (i := 0) (pc := 73) dX4_readAct_73 rfl rfl ?_
                refine go_geti fl_X4_44 (pc := 74) dX4_readAct_74 (by first | rfl | (apply zL_fi <;> first | assumption | decide) | (apply zR_fi <;> first | assumption | decide)) ?_
                rw [hR.2.2.2.2.2.1]
                refine go_aload_n (i := 0) (pc := 77) dX4_readAct_77 rfl rfl ?_
                refine go_geti fl_X4_41 (pc := 78) dX4_readAct_78 (by first | rfl | (apply zL_fi <;> first | assumption | decide) | (apply zR_fi <;> first | assumption | decide)) ?_
                rw [hR.2.2.2.2.1]
                refine go_ishr (pc := 81) dX4_readAct_81 ?_
                refine go_iconst (nI 1) (pc := 82) dX4_readAct_82 (by decide) ?_
                refine go_iand (pc := 83) dX4_readAct_83 ?_
                rw [bc_tst c (by omega)]
                refine go_if_eq 89 (pc := 84) dX4_readAct_84 (by decide) (fun h84 => ?_) (fun h84 => ?_)
                · refine go_aload_n (i := 0) (pc := 89) dX4_readAct_89 rfl rfl ?_
                  refine go_dup (pc := 90) dX4_readAct_90 rfl ?_
                  refine go_geti fl_X4_44 (pc := 91) dX4_readAct_91 (by first | rfl | (apply zL_fi <;> first | assumption | decide) | (apply zR_fi <;> first | assumption | decide)) ?_
                  rw [hR.2.2.2.2.2.1]
                  refine go_iconst (nI 1) (pc := 94) dX4_readAct_94 (by decide) ?_
                  refine go_aload_n (i := 0) (pc := 95) dX4_readAct_95 rfl rfl ?_
                  refine go_geti fl_X4_41 (pc := 96) dX4_readAct_96 (by first | rfl | (apply zL_fi <;> first | assumption | decide) | (apply zR_fi <;> first | assumption | decide)) ?_
                  rw [hR.2.2.2.2.1]
                  refine go_ishl (pc := 99) dX4_readAct_99 ?_
                  refine go_ior (pc := 100) dX4_readAct_100 ?_
                  rw [bc_set c (by omega)]
                  refine go_puti fp_X4_44 (pc := 101) dX4_readAct_101 (by first | rfl | (apply zL_fi <;> first | assumption | decide) | (apply zR_fi <;> first | assumption | decide)) rfl rfl ?_
                  refine go_aload_n (i := 0) (pc := 104) dX4_readAct_104 rfl rfl ?_
                  refine go_iload_n (i := 2) (pc := 105) dX4_readAct_105 rfl rfl ?_
                  refine go_callS ml_X4_74 mt_X4_rank (pc := 106) dX4_readAct_106 (c_X4_rank (t := t) (Or.inl htk)) (by decide) (by decide) rfl rfl (Nat.le_of_ble_eq_true rfl) (fun r σ' hp => ?_)
                  obtain ⟨rfl, hσ⟩ := hp
                  rw [hσ]
                  clear hσ σ'
                  dsimp only [zRet]
                  refine go_callV ml_X4_77 mt_X4_placeWaiting (pc := 109) dX4_readAct_109 (c_X4_placeWaiting (r1 := rkT t) hk (by omega) (by omega) (hR.s7 (c2 := upc c d true) rfl) (by omega)) (by first | rfl | (apply zL_cq <;> assumption) | (apply zR_cq <;> assumption)) rfl (by first | rfl | (apply zL_in <;> first | assumption | decide) | (apply zR_in <;> first | assumption | decide)) (by decide) (by decide) rfl rfl (Nat.le_of_ble_eq_true rfl) (fun r σ' hp => ?_)
                  obtain ⟨rfl, hR1, hF1⟩ := hp
                  dsimp only [zRet]
                  have hpl := popS_len (rkT t) W S
                  refine go_aload_n (i := 0) (pc := 112) dX4_readAct_112 rfl rfl ?_
                  refine go_iload_n (i := 2) (pc := 113) dX4_readAct_113 rfl rfl ?_
                  refine go_callV ml_X4_87 mt_X4_addWaiting (pc := 114) dX4_readAct_114 (c_X4_addWaiting (t := t) hk hR1 (by omega) (Or.inl htk)) (by first | rfl | (apply zL_cq <;> assumption) | (apply zR_cq <;> assumption)) rfl (by first | rfl | (apply zL_in <;> first | assumption | decide) | (apply zR_in <;> first | assumption | decide)) (by decide) (by decide) rfl rfl (Nat.le_of_ble_eq_true rfl) (fun r σ' hp => ?_)
                  obtain ⟨rfl, hR2, hF2⟩ := hp
                  dsimp only [zRet]
                  refine go_aload_n (i := 0) (pc := 117) dX4_readAct_117 rfl rfl ?_
                  refine go_iconst (nI 1) (pc := 118) dX4_readAct_118 (by decide) ?_
                  refine go_puti fp_X4_47 (pc := 119) dX4_readAct_119 (by first | rfl | (apply zL_fi <;> first | assumption | decide) | (apply zR_fi <;> first | assumption | decide)) rfl rfl ?_
                  refine go_iconst (nI 1) (pc := 122) dX4_readAct_122 (by decide) ?_
                  refine go_ireturn (pc := 123) dX4_readAct_123 rfl ?_
                  rw [hr1] at hR2
                  exact ⟨by show _ = some (Value.int (nI (p + 1 - p))); rw [Nat.add_sub_cancel_left], hR2.s8 (b := true), (((FrG.rf.uS (by simp)).tr hF1).tr hF2).uS (by simp)⟩
                · exact absurd ((zb_0 _).mpr (Bool.eq_false_iff.mpr hcd)) h84
            · exact absurd (show ctw t = -15 from h56) (by rw [ctw_c (by omega)]; exact ctok_15 (by omega))
        · rw [if_neg hr1]
          refine go_iload_n (i := 1) (pc := 48) dX4_readAct_48 rfl rfl ?_
          refine go_callS ml_X4_96 mt_X4_actOf (pc := 49) dX4_readAct_49 (c_X4_actOf hv) (by decide) (by decide) rfl rfl (Nat.le_of_ble_eq_true rfl) (fun r σ' hp => ?_)
          obtain ⟨rfl, hσ⟩ := hp
          rw [hσ]
          clear hσ σ'
          dsimp only [zRet]
          rw [ha]
          dsimp only
          rw [← ctw_c (by omega)]
          refine go_istore_n (i := 2) (pc := 52) dX4_readAct_52 rfl (by decide) ?_
          refine go_iload_n (i := 2) (pc := 53) dX4_readAct_53 rfl rfl ?_
          refine go_bipush (-15) (pc := 54) dX4_readAct_54 (by decide) ?_
          refine go_icmp_ne 61 (pc := 56) dX4_readAct_56 (by decide) (fun h56 => ?_) (fun h56 => ?_)
          · refine go_iload_n (i := 2) (pc := 61) dX4_readAct_61 rfl rfl ?_
            refine go_callS ml_X4_74 mt_X4_rank (pc := 62) dX4_readAct_62 (c_X4_rank (t := t) (Or.inl htk)) (by decide) (by decide) rfl rfl (Nat.le_of_ble_eq_true rfl) (fun r σ' hp => ?_)
            obtain ⟨rfl, hσ⟩ := hp
            rw [hσ]
            clear hσ σ'
            dsimp only [zRet]
            refine go_bipush (-11) (pc := 65) dX4_readAct_65 (by decide) ?_
            refine go_callS ml_X4_74 mt_X4_rank (pc := 67) dX4_readAct_67 (c_X4_rank2000) (by decide) (by decide) rfl rfl (Nat.le_of_ble_eq_true rfl) (fun r σ' hp => ?_)
            obtain ⟨rfl, hσ⟩ := hp
            rw [hσ]
            clear hσ σ'
            dsimp only [zRet]
            rw [show rkT 2000 = 1 from rfl]
            refine go_icmp_ne 104 (pc := 70) dX4_readAct_70 (by decide) (fun h70 => ?_) (fun h70 => ?_)
            · first | rw [nI_eq (by omega) (by omega)] at h70 | rw [zi_eqN (by omega)] at h70 | rw [zi_Neq (by omega)] at h70 | rw [zi_eq] at h70
              refine go_aload_n (i := 0) (pc := 104) dX4_readAct_104 rfl rfl ?_
              refine go_iload_n (i := 2) (pc := 105) dX4_readAct_105 rfl rfl ?_
              refine go_callS ml_X4_74 mt_X4_rank (pc := 106) dX4_readAct_106 (c_X4_rank (t := t) (Or.inl htk)) (by decide) (by decide) rfl rfl (Nat.le_of_ble_eq_true rfl) (fun r σ' hp => ?_)
              obtain ⟨rfl, hσ⟩ := hp
              rw [hσ]
              clear hσ σ'
              dsimp only [zRet]
              refine go_callV ml_X4_77 mt_X4_placeWaiting (pc := 109) dX4_readAct_109 (c_X4_placeWaiting (r1 := rkT t) hk (by omega) (by omega) hR (by omega)) (by first | rfl | (apply zL_cq <;> assumption) | (apply zR_cq <;> assumption)) rfl (by first | rfl | (apply zL_in <;> first | assumption | decide) | (apply zR_in <;> first | assumption | decide)) (by decide) (by decide) rfl rfl (Nat.le_of_ble_eq_true rfl) (fun r σ' hp => ?_)
              obtain ⟨rfl, hR1, hF1⟩ := hp
              dsimp only [zRet]
              have hpl := popS_len (rkT t) W S
              refine go_aload_n (i := 0) (pc := 112) dX4_readAct_112 rfl rfl ?_
              refine go_iload_n (i := 2) (pc := 113) dX4_readAct_113 rfl rfl ?_
              refine go_callV ml_X4_87 mt_X4_addWaiting (pc := 114) dX4_readAct_114 (c_X4_addWaiting (t := t) hk hR1 (by omega) (Or.inl htk)) (by first | rfl | (apply zL_cq <;> assumption) | (apply zR_cq <;> assumption)) rfl (by first | rfl | (apply zL_in <;> first | assumption | decide) | (apply zR_in <;> first | assumption | decide)) (by decide) (by decide) rfl rfl (Nat.le_of_ble_eq_true rfl) (fun r σ' hp => ?_)
              obtain ⟨rfl, hR2, hF2⟩ := hp
              dsimp only [zRet]
              refine go_aload_n (i := 0) (pc := 117) dX4_readAct_117 rfl rfl ?_
              refine go_iconst (nI 1) (pc := 118) dX4_readAct_118 (by decide) ?_
              refine go_puti fp_X4_47 (pc := 119) dX4_readAct_119 (by first | rfl | (apply zL_fi <;> first | assumption | decide) | (apply zR_fi <;> first | assumption | decide)) rfl rfl ?_
              refine go_iconst (nI 1) (pc := 122) dX4_readAct_122 (by decide) ?_
              refine go_ireturn (pc := 123) dX4_readAct_123 rfl ?_
              exact ⟨by show _ = some (Value.int (nI (p + 1 - p))); rw [Nat.add_sub_cancel_left], hR2.s8 (b := true), (hF1.tr hF2).uS (by simp)⟩
            · first | rw [nI_eq (by omega) (by omega)] at h70 | rw [zi_eqN (by omega)] at h70 | rw [zi_Neq (by omega)] at h70 | rw [zi_eq] at h70
              exfalso
              omega
          · exact absurd (show ctw t = -15 from h56) (by rw [ctw_c (by omega)]; exact ctok_15 (by omega))
    · first | rw [zb_0d] at h10 | rw [zn_le0 (by omega)] at h10 | rw [zi_le0] at h10
      refine go_aload_n (i := 0) (pc := 13) dX4_readAct_13 rfl rfl ?_
      refine go_bipush (-11) (pc := 14) dX4_readAct_14 (by decide) ?_
      refine go_callS ml_X4_74 mt_X4_rank (pc := 16) dX4_readAct_16 (c_X4_rank2000) (by decide) (by decide) rfl rfl (Nat.le_of_ble_eq_true rfl) (fun r σ' hp => ?_)
      obtain ⟨rfl, hσ⟩ := hp
      rw [hσ]
      clear hσ σ'
      dsimp only [zRet]
      rw [show rkT 2000 = 1 from rfl]
      refine go_callV ml_X4_77 mt_X4_placeWaiting (pc := 19) dX4_readAct_19 (c_X4_placeWaiting (r1 := 1) hk (by omega) (by omega) hR (by omega)) (by first | rfl | (apply zL_cq <;> assumption) | (apply zR_cq <;> assumption)) rfl (by first | rfl | (apply zL_in <;> first | assumption | decide) | (apply zR_in <;> first | assumption | decide)) (by decide) (by decide) rfl rfl (Nat.le_of_ble_eq_true rfl) (fun r σ' hp => ?_)
      obtain ⟨rfl, hR1, hF1⟩ := hp
      dsimp only [zRet]
      have hpl := popS_len (1) W S
      refine go_aload_n (i := 0) (pc := 22) dX4_readAct_22 rfl rfl ?_
      refine go_iconst (nI 0) (pc := 23) dX4_readAct_23 (by decide) ?_
      refine go_aload_n (i := 0) (pc := 24) dX4_readAct_24 rfl rfl ?_
      refine go_geti fl_X4_38 (pc := 25) dX4_readAct_25 (by first | rfl | (apply zL_fi <;> first | assumption | decide) | (apply zR_fi <;> first | assumption | decide)) ?_
      rw [hR1.2.2.1]
      refine go_iconst (nI 1) (pc := 28) dX4_readAct_28 (by decide) ?_
      refine go_isub (pc := 29) dX4_readAct_29 ?_
      refine go_callS ml_X4_93 mt_J9_max_7cf53 (pc := 30) dX4_readAct_30 (c_J9_max_7cf53) (by decide) (by decide) rfl rfl (Nat.le_of_ble_eq_true rfl) (fun r σ' hp => ?_)
      obtain ⟨rfl, hσ⟩ := hp
      rw [hσ]
      clear hσ σ'
      dsimp only [zRet]
      rw [max_tail (by omega)]
      refine go_puti fp_X4_38 (pc := 33) dX4_readAct_33 (by first | rfl | (apply zL_fi <;> first | assumption | decide) | (apply zR_fi <;> first | assumption | decide)) rfl rfl ?_
      refine go_aload_n (i := 0) (pc := 36) dX4_readAct_36 rfl rfl ?_
      refine go_dup (pc := 37) dX4_readAct_37 rfl ?_
      refine go_geti fl_X4_41 (pc := 38) dX4_readAct_38 (by first | rfl | (apply zL_fi <;> first | assumption | decide) | (apply zR_fi <;> first | assumption | decide)) ?_
      rw [hR1.s5t.2.2.2.2.1]
      refine go_iconst (nI 1) (pc := 41) dX4_readAct_41 (by decide) ?_
      first | with_reducible refine go_isubN (pc := 42) dX4_readAct_42 (by omega) ?_ | refine go_isub (pc := 42) dX4_readAct_42 ?_
      refine go_puti fp_X4_41 (pc := 43) dX4_readAct_43 (by first | rfl | (apply zL_fi <;> first | assumption | decide) | (apply zR_fi <;> first | assumption | decide)) rfl rfl ?_
      refine go_iconst (nI 1) (pc := 46) dX4_readAct_46 (by decide) ?_
      refine go_ireturn (pc := 47) dX4_readAct_47 rfl ?_
      rw [show mA f p W S d c = some (p + 1, false, (popS 1 W S).1.tail, (popS 1 W S).2, d - 1, c) by unfold mA; rw [if_pos (by omega)]]
      exact ⟨by show _ = some (Value.int (nI (p + 1 - p))); rw [Nat.add_sub_cancel_left], hR1.s5t.s6 (d2 := d - 1), (hF1.uS (by simp)).uS (by simp)⟩

