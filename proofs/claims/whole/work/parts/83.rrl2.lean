theorem rdQ_s {E : zE} {f : Nat → Nat} {lim F : Nat} (hT : rdT E f lim (F + 1)) (hQ : ∀ G, G ≤ F → rdQ E f lim G) : rdQ E f lim (F + 1) := by
  intro m n p ys σ b q n2 o hm hI hF e
  refine cal_of_go (own := RX12) rfl (by decide +kernel) (Nat.le_of_ble_eq_true rfl) ?_
  have hpl0 := hI.bd
  have loop0 : ∀ G, G ≤ F → ∀ (n p : Nat) (ys : List Nat) (τ : zT) (b : Bool) (q n2 : Nat) (o : List Nat), rdI f lim τ n p ys → 4 * (lim - p) + 1 ≤ G → rP f lim G 4 n p = some (b, q, n2, o) → Fr9 [16, 18, 24] [12] σ τ → GoM E (2 * (F + 1) + 7) RX12 cX12_readsRank 4 (some .boolean) (rdP f lim σ b q n2 (ys ++ o)) τ 24 [(0, .ref (zA E 33 0)), (1, .int (nI 0)), (2, .int (nI 1))] [] := by
    intro G
    induction G with
    | zero => intro _ n p ys τ b q n2 o hI hG; omega
    | succ G ih =>
      intro hGF n p ys τ b q n2 o hI hG e hFr
      obtain ⟨hK, hl40, hn18, hn4, hRc, hyl⟩ := hI
      have hpl := hK.2.2.1
      rw [rP, if_neg (by decide), if_neg (by decide)] at e
      cases ea : amA 3 f p lim with
      | none =>
        rw [show amA (4 - 1) f p lim = none from ea] at e
        cases e
        refine go_iload_n (i := 2) (pc := 24) dX12_readsRank_24 rfl rfl ?_
        refine go_if_eq 113 (pc := 25) dX12_readsRank_25 (by decide) (fun h25 => ?_) (fun h25 => ?_)
        · exact absurd h25 (by decide)
        · refine go_aload_n (i := 0) (pc := 28) dX12_readsRank_28 rfl rfl ?_
          refine go_iload_n (i := 1) (pc := 29) dX12_readsRank_29 rfl rfl ?_
          refine go_if_ne 38 (pc := 30) dX12_readsRank_30 (by decide) (fun h30 => ?_) (fun h30 => ?_)
          · exact absurd rfl h30
          · refine go_ldcS 3 rfl rfl (pc := 33) dX12_readsRank_33 ?_
            refine go_goto 50 (pc := 35) dX12_readsRank_35 (by decide) ?_
            refine go_callV ml_X12_172 mt_X12_takesOf (pc := 50) dX12_readsRank_50 (c_X12_takesOf (ti := 3) hK (by decide)) (by rfl) rfl (by rfl) (by first | decide | omega) (by decide) rfl rfl (Nat.le_of_ble_eq_true rfl) (fun r σ' hp => ?_)
            obtain ⟨rfl, hK2, hF2⟩ := hp
            dsimp only [zRet]
            rw [ea] at hK2 ⊢
            dsimp only [gM] at hK2 ⊢
            have hn2 := hF2.2.1 18 (by decide)
            rw [hn18] at hn2
            have hR2 := hRc.fr hF2 (by decide) (by decide)
            refine go_istore_n (i := 3) (pc := 53) dX12_readsRank_53 rfl (by decide) ?_
            refine go_iload_n (i := 3) (pc := 54) dX12_readsRank_54 rfl rfl ?_
            refine go_if_ge 60 (pc := 55) dX12_readsRank_55 (by decide) (fun h55 => ?_) (fun h55 => ?_)
            · exact absurd h55 (by decide)
            · refine go_iconst (nI 1) (pc := 58) dX12_readsRank_58 (by decide) ?_
              refine go_zreturn (pc := 59) dX12_readsRank_59 rfl (by rfl) ?_
              exact ⟨rfl, hK2, hn2, by rw [List.append_nil]; exact hR2, hFr.tr (hF2.mono (by simp) (by simp))⟩
      | some a =>
        rw [show amA (4 - 1) f p lim = some a from ea] at e
        have ha := amA_lt ea
        have ha3 : a < 3 := Nat.lt_of_lt_of_le ha.2.1 (by decide)
        dsimp only at e
        obtain ⟨b1, q1, n1, o1, e1, g⟩ := rP_tot (f := f) (lim := lim) G 1 n (p + 1) (by decide) hn4 (by omega) (by omega)
        rw [show rP f lim G (4 - 3) n (p + 1) = some (b1, q1, n1, o1) from e1] at e
        dsimp only at e
        have g1 := g.1
        have g2 := g.2.1
        have g3 := g.2.2.1
        have g5 := g.2.2.2.2.1
        cases b1 with
        | false =>
          rw [if_neg (by decide)] at e
          cases e
          refine go_iload_n (i := 2) (pc := 24) dX12_readsRank_24 rfl rfl ?_
          refine go_if_eq 113 (pc := 25) dX12_readsRank_25 (by decide) (fun h25 => ?_) (fun h25 => ?_)
          · exact absurd h25 (by decide)
          · refine go_aload_n (i := 0) (pc := 28) dX12_readsRank_28 rfl rfl ?_
            refine go_iload_n (i := 1) (pc := 29) dX12_readsRank_29 rfl rfl ?_
            refine go_if_ne 38 (pc := 30) dX12_readsRank_30 (by decide) (fun h30 => ?_) (fun h30 => ?_)
            · exact absurd rfl h30
            · refine go_ldcS 3 rfl rfl (pc := 33) dX12_readsRank_33 ?_
              refine go_goto 50 (pc := 35) dX12_readsRank_35 (by decide) ?_
              refine go_callV ml_X12_172 mt_X12_takesOf (pc := 50) dX12_readsRank_50 (c_X12_takesOf (ti := 3) hK (by decide)) (by rfl) rfl (by rfl) (by first | decide | omega) (by decide) rfl rfl (Nat.le_of_ble_eq_true rfl) (fun r σ' hp => ?_)
              obtain ⟨rfl, hK2, hF2⟩ := hp
              dsimp only [zRet]
              rw [ea] at hK2 ⊢
              dsimp only [gM] at hK2 ⊢
              have hn2 := hF2.2.1 18 (by decide)
              rw [hn18] at hn2
              have hR2 := hRc.fr hF2 (by decide) (by decide)
              refine go_istore_n (i := 3) (pc := 53) dX12_readsRank_53 rfl (by decide) ?_
              refine go_iload_n (i := 3) (pc := 54) dX12_readsRank_54 rfl rfl ?_
              refine go_if_ge 60 (pc := 55) dX12_readsRank_55 (by decide) (fun h55 => ?_) (fun h55 => ?_)
              · refine go_aload_n (i := 0) (pc := 60) dX12_readsRank_60 rfl rfl ?_
                refine go_iload_n (i := 1) (pc := 61) dX12_readsRank_61 rfl rfl ?_
                refine go_iconst (nI 1) (pc := 62) dX12_readsRank_62 (by decide) ?_
                first | with_reducible refine go_iaddN (pc := 63) dX12_readsRank_63 ?_ | refine go_iadd (pc := 63) dX12_readsRank_63 ?_
                refine go_callV ml_X12_218 mt_X12_readsRank (pc := 64) dX12_readsRank_64 (hQ G (by omega) 1 n (p + 1) ys _ _ _ _ _ (by decide) ⟨hK2, hl40, hn2, hn4, hR2, by omega⟩ (by omega) e1) (by rfl) rfl (by rfl) (by first | decide | omega) (by decide) rfl rfl (Nat.le_of_ble_eq_true rfl) (fun r σ' hp => ?_)
                obtain ⟨rfl, hK3, hn3, hR3, hF3⟩ := hp
                dsimp only [zRet]
                refine go_if_ne 72 (pc := 67) dX12_readsRank_67 (by decide) (fun h67 => ?_) (fun h67 => ?_)
                · exact absurd rfl h67
                · refine go_iconst (nI 0) (pc := 70) dX12_readsRank_70 (by decide) ?_
                  refine go_zreturn (pc := 71) dX12_readsRank_71 rfl (by rfl) ?_
                  exact ⟨rfl, hK3, hn3, hR3, (hFr.tr (hF2.mono (by simp) (by simp))).tr hF3⟩
              · exact absurd (by rw [zi_ge0, nI_toInt (by omega)]; omega) h55
        | true =>
          rw [if_pos rfl, if_pos rfl] at e
          cases e
          refine go_iload_n (i := 2) (pc := 24) dX12_readsRank_24 rfl rfl ?_
          refine go_if_eq 113 (pc := 25) dX12_readsRank_25 (by decide) (fun h25 => ?_) (fun h25 => ?_)
          · exact absurd h25 (by decide)
          · refine go_aload_n (i := 0) (pc := 28) dX12_readsRank_28 rfl rfl ?_
            refine go_iload_n (i := 1) (pc := 29) dX12_readsRank_29 rfl rfl ?_
            refine go_if_ne 38 (pc := 30) dX12_readsRank_30 (by decide) (fun h30 => ?_) (fun h30 => ?_)
            · exact absurd rfl h30
            · refine go_ldcS 3 rfl rfl (pc := 33) dX12_readsRank_33 ?_
              refine go_goto 50 (pc := 35) dX12_readsRank_35 (by decide) ?_
              refine go_callV ml_X12_172 mt_X12_takesOf (pc := 50) dX12_readsRank_50 (c_X12_takesOf (ti := 3) hK (by decide)) (by rfl) rfl (by rfl) (by first | decide | omega) (by decide) rfl rfl (Nat.le_of_ble_eq_true rfl) (fun r σ' hp => ?_)
              obtain ⟨rfl, hK2, hF2⟩ := hp
              dsimp only [zRet]
              rw [ea] at hK2 ⊢
              dsimp only [gM] at hK2 ⊢
              have hn2 := hF2.2.1 18 (by decide)
              rw [hn18] at hn2
              have hR2 := hRc.fr hF2 (by decide) (by decide)
              refine go_istore_n (i := 3) (pc := 53) dX12_readsRank_53 rfl (by decide) ?_
              refine go_iload_n (i := 3) (pc := 54) dX12_readsRank_54 rfl rfl ?_
              refine go_if_ge 60 (pc := 55) dX12_readsRank_55 (by decide) (fun h55 => ?_) (fun h55 => ?_)
              · refine go_aload_n (i := 0) (pc := 60) dX12_readsRank_60 rfl rfl ?_
                refine go_iload_n (i := 1) (pc := 61) dX12_readsRank_61 rfl rfl ?_
                refine go_iconst (nI 1) (pc := 62) dX12_readsRank_62 (by decide) ?_
                first | with_reducible refine go_iaddN (pc := 63) dX12_readsRank_63 ?_ | refine go_iadd (pc := 63) dX12_readsRank_63 ?_
                refine go_callV ml_X12_218 mt_X12_readsRank (pc := 64) dX12_readsRank_64 (hQ G (by omega) 1 n (p + 1) ys _ _ _ _ _ (by decide) ⟨hK2, hl40, hn2, hn4, hR2, by omega⟩ (by omega) e1) (by rfl) rfl (by rfl) (by first | decide | omega) (by decide) rfl rfl (Nat.le_of_ble_eq_true rfl) (fun r σ' hp => ?_)
                obtain ⟨rfl, hK3, hn3, hR3, hF3⟩ := hp
                dsimp only [zRet]
                refine go_if_ne 72 (pc := 67) dX12_readsRank_67 (by decide) (fun h67 => ?_) (fun h67 => ?_)
                · refine go_aload_n (i := 0) (pc := 72) dX12_readsRank_72 rfl rfl ?_
                  refine go_sipush (nI 2000) (pc := 73) dX12_readsRank_73 (by decide) ?_
                  refine go_iload_n (i := 3) (pc := 76) dX12_readsRank_76 rfl rfl ?_
                  first | with_reducible refine go_iaddN (pc := 77) dX12_readsRank_77 ?_ | refine go_iadd (pc := 77) dX12_readsRank_77 ?_
                  refine go_iload_n (i := 1) (pc := 78) dX12_readsRank_78 rfl rfl ?_
                  refine go_if_ne 86 (pc := 79) dX12_readsRank_79 (by decide) (fun h79 => ?_) (fun h79 => ?_)
                  · exact absurd rfl h79
                  · refine go_iconst (nI 0) (pc := 82) dX12_readsRank_82 (by decide) ?_
                    refine go_goto 96 (pc := 83) dX12_readsRank_83 (by decide) ?_
                    first | with_reducible refine go_iaddN (pc := 96) dX12_readsRank_96 ?_ | refine go_iadd (pc := 96) dX12_readsRank_96 ?_
                    rw [show 2000 + a + 0 = 2000 + a by omega]
                    refine go_callV ml_X12_212 mt_X12_codes (pc := 97) dX12_readsRank_97 (c_X12_codes (t := 2000 + a) hR3 (by rw [List.length_append]; omega)) (by rfl) rfl (by rfl) (by first | decide | omega) (by decide) rfl rfl (Nat.le_of_ble_eq_true rfl) (fun r σ' hp => ?_)
                    obtain ⟨rfl, hR4, hF4⟩ := hp
                    dsimp only [zRet]
                    have hK4 := hK3.fr hF4 (by decide) (by decide) (by decide)
                    have hn4b := hF4.2.1 18 (by decide)
                    rw [hn3] at hn4b
                    refine go_iload_n (i := 1) (pc := 100) dX12_readsRank_100 rfl rfl ?_
                    refine go_if_le 108 (pc := 101) dX12_readsRank_101 (by decide) (fun h101 => ?_) (fun h101 => ?_)
                    · refine go_iconst (nI 0) (pc := 108) dX12_readsRank_108 (by decide) ?_
                      refine go_istore_n (i := 2) (pc := 109) dX12_readsRank_109 rfl (by decide) ?_
                      refine go_goto 24 (pc := 110) dX12_readsRank_110 (by decide) ?_
                      refine go_iload_n (i := 2) (pc := 24) dX12_readsRank_24 rfl rfl ?_
                      refine go_if_eq 113 (pc := 25) dX12_readsRank_25 (by decide) (fun _ => ?_) (fun h => absurd rfl h)
                      refine go_iconst (nI 1) (pc := 113) dX12_readsRank_113 (by decide) ?_
                      refine go_zreturn (pc := 114) dX12_readsRank_114 rfl (by rfl) ?_
                      exact ⟨rfl, hK4, hn4b, by rw [← List.append_assoc]; exact hR4, ((hFr.tr (hF2.mono (by simp) (by simp))).tr hF3).tr (hF4.mono (by simp) (by simp))⟩
                    · exact absurd (by decide) h101
                · exact absurd h67 (by decide)
              · exact absurd (by rw [zi_ge0, nI_toInt (by omega)]; omega) h55
  have loop1 : ∀ G, G ≤ F → ∀ (n p : Nat) (ys : List Nat) (τ : zT) (b : Bool) (q n2 : Nat) (o : List Nat), rdI f lim τ n p ys → 4 * (lim - p) + 1 ≤ G → rP f lim G 5 n p = some (b, q, n2, o) → Fr9 [16, 18, 24] [12] σ τ → GoM E (2 * (F + 1) + 7) RX12 cX12_readsRank 4 (some .boolean) (rdP f lim σ b q n2 (ys ++ o)) τ 24 [(0, .ref (zA E 33 0)), (1, .int (nI 1)), (2, .int (nI 1))] [] := by
    intro G
    induction G with
    | zero => intro _ n p ys τ b q n2 o hI hG; omega
    | succ G ih =>
      intro hGF n p ys τ b q n2 o hI hG e hFr
      obtain ⟨hK, hl40, hn18, hn4, hRc, hyl⟩ := hI
      have hpl := hK.2.2.1
      rw [rP, if_neg (by decide), if_neg (by decide)] at e
      cases ea : amA 4 f p lim with
      | none =>
        rw [show amA (5 - 1) f p lim = none from ea] at e
        cases e
        refine go_iload_n (i := 2) (pc := 24) dX12_readsRank_24 rfl rfl ?_
        refine go_if_eq 113 (pc := 25) dX12_readsRank_25 (by decide) (fun h25 => ?_) (fun h25 => ?_)
        · exact absurd h25 (by decide)
        · refine go_aload_n (i := 0) (pc := 28) dX12_readsRank_28 rfl rfl ?_
          refine go_iload_n (i := 1) (pc := 29) dX12_readsRank_29 rfl rfl ?_
          refine go_if_ne 38 (pc := 30) dX12_readsRank_30 (by decide) (fun h30 => ?_) (fun h30 => ?_)
          · refine go_iload_n (i := 1) (pc := 38) dX12_readsRank_38 rfl rfl ?_
            refine go_iconst (nI 1) (pc := 39) dX12_readsRank_39 (by decide) ?_
            refine go_icmp_ne 48 (pc := 40) dX12_readsRank_40 (by decide) (fun h40 => ?_) (fun h40 => ?_)
            · exact absurd rfl h40
            · refine go_ldcS 4 rfl rfl (pc := 43) dX12_readsRank_43 ?_
              refine go_goto 50 (pc := 45) dX12_readsRank_45 (by decide) ?_
              refine go_callV ml_X12_172 mt_X12_takesOf (pc := 50) dX12_readsRank_50 (c_X12_takesOf (ti := 4) hK (by decide)) (by rfl) rfl (by rfl) (by first | decide | omega) (by decide) rfl rfl (Nat.le_of_ble_eq_true rfl) (fun r σ' hp => ?_)
              obtain ⟨rfl, hK2, hF2⟩ := hp
              dsimp only [zRet]
              rw [ea] at hK2 ⊢
              dsimp only [gM] at hK2 ⊢
              have hn2 := hF2.2.1 18 (by decide)
              rw [hn18] at hn2
              have hR2 := hRc.fr hF2 (by decide) (by decide)
              refine go_istore_n (i := 3) (pc := 53) dX12_readsRank_53 rfl (by decide) ?_
              refine go_iload_n (i := 3) (pc := 54) dX12_readsRank_54 rfl rfl ?_
              refine go_if_ge 60 (pc := 55) dX12_readsRank_55 (by decide) (fun h55 => ?_) (fun h55 => ?_)
              · exact absurd h55 (by decide)
              · refine go_iconst (nI 1) (pc := 58) dX12_readsRank_58 (by decide) ?_
                refine go_zreturn (pc := 59) dX12_readsRank_59 rfl (by rfl) ?_
                exact ⟨rfl, hK2, hn2, by rw [List.append_nil]; exact hR2, hFr.tr (hF2.mono (by simp) (by simp))⟩
          · exact absurd h30 (by decide)
      | some a =>
        rw [show amA (5 - 1) f p lim = some a from ea] at e
        have ha := amA_lt ea
        have ha3 : a < 3 := Nat.lt_of_lt_of_le ha.2.1 (by decide)
        dsimp only at e
        obtain ⟨b1, q1, n1, o1, e1, g⟩ := rP_tot (f := f) (lim := lim) G 2 n (p + 1) (by decide) hn4 (by omega) (by omega)
        rw [show rP f lim G (5 - 3) n (p + 1) = some (b1, q1, n1, o1) from e1] at e
        dsimp only at e
        have g1 := g.1
        have g2 := g.2.1
        have g3 := g.2.2.1
        have g5 := g.2.2.2.2.1
        cases b1 with
        | false =>
          rw [if_neg (by decide)] at e
          cases e
          refine go_iload_n (i := 2) (pc := 24) dX12_readsRank_24 rfl rfl ?_
          refine go_if_eq 113 (pc := 25) dX12_readsRank_25 (by decide) (fun h25 => ?_) (fun h25 => ?_)
          · exact absurd h25 (by decide)
          · refine go_aload_n (i := 0) (pc := 28) dX12_readsRank_28 rfl rfl ?_
            refine go_iload_n (i := 1) (pc := 29) dX12_readsRank_29 rfl rfl ?_
            refine go_if_ne 38 (pc := 30) dX12_readsRank_30 (by decide) (fun h30 => ?_) (fun h30 => ?_)
            · refine go_iload_n (i := 1) (pc := 38) dX12_readsRank_38 rfl rfl ?_
              refine go_iconst (nI 1) (pc := 39) dX12_readsRank_39 (by decide) ?_
              refine go_icmp_ne 48 (pc := 40) dX12_readsRank_40 (by decide) (fun h40 => ?_) (fun h40 => ?_)
              · exact absurd rfl h40
              · refine go_ldcS 4 rfl rfl (pc := 43) dX12_readsRank_43 ?_
                refine go_goto 50 (pc := 45) dX12_readsRank_45 (by decide) ?_
                refine go_callV ml_X12_172 mt_X12_takesOf (pc := 50) dX12_readsRank_50 (c_X12_takesOf (ti := 4) hK (by decide)) (by rfl) rfl (by rfl) (by first | decide | omega) (by decide) rfl rfl (Nat.le_of_ble_eq_true rfl) (fun r σ' hp => ?_)
                obtain ⟨rfl, hK2, hF2⟩ := hp
                dsimp only [zRet]
                rw [ea] at hK2 ⊢
                dsimp only [gM] at hK2 ⊢
                have hn2 := hF2.2.1 18 (by decide)
                rw [hn18] at hn2
                have hR2 := hRc.fr hF2 (by decide) (by decide)
                refine go_istore_n (i := 3) (pc := 53) dX12_readsRank_53 rfl (by decide) ?_
                refine go_iload_n (i := 3) (pc := 54) dX12_readsRank_54 rfl rfl ?_
                refine go_if_ge 60 (pc := 55) dX12_readsRank_55 (by decide) (fun h55 => ?_) (fun h55 => ?_)
                · refine go_aload_n (i := 0) (pc := 60) dX12_readsRank_60 rfl rfl ?_
                  refine go_iload_n (i := 1) (pc := 61) dX12_readsRank_61 rfl rfl ?_
                  refine go_iconst (nI 1) (pc := 62) dX12_readsRank_62 (by decide) ?_
                  first | with_reducible refine go_iaddN (pc := 63) dX12_readsRank_63 ?_ | refine go_iadd (pc := 63) dX12_readsRank_63 ?_
                  refine go_callV ml_X12_218 mt_X12_readsRank (pc := 64) dX12_readsRank_64 (hQ G (by omega) 2 n (p + 1) ys _ _ _ _ _ (by decide) ⟨hK2, hl40, hn2, hn4, hR2, by omega⟩ (by omega) e1) (by rfl) rfl (by rfl) (by first | decide | omega) (by decide) rfl rfl (Nat.le_of_ble_eq_true rfl) (fun r σ' hp => ?_)
                  obtain ⟨rfl, hK3, hn3, hR3, hF3⟩ := hp
                  dsimp only [zRet]
                  refine go_if_ne 72 (pc := 67) dX12_readsRank_67 (by decide) (fun h67 => ?_) (fun h67 => ?_)
                  · exact absurd rfl h67
                  · refine go_iconst (nI 0) (pc := 70) dX12_readsRank_70 (by decide) ?_
                    refine go_zreturn (pc := 71) dX12_readsRank_71 rfl (by rfl) ?_
                    exact ⟨rfl, hK3, hn3, hR3, (hFr.tr (hF2.mono (by simp) (by simp))).tr hF3⟩
                · exact absurd (by rw [zi_ge0, nI_toInt (by omega)]; omega) h55
            · exact absurd h30 (by decide)
        | true =>
          rw [if_pos rfl, if_neg (by decide)] at e
          obtain ⟨b2, q2, n3, o2, e2, k⟩ := rP_tot (f := f) (lim := lim) G 5 n1 q1 (by decide) g5 g2 (by omega)
          rw [e2] at e
          cases e
          rw [show ys ++ (o1 ++ [2000 + a + (if 5 = 5 then 3 else 5)] ++ o2) = ys ++ o1 ++ [2003 + a] ++ o2 by rw [if_pos rfl, show 2000 + a + 3 = 2003 + a by omega]; simp only [List.append_assoc]]
          refine go_iload_n (i := 2) (pc := 24) dX12_readsRank_24 rfl rfl ?_
          refine go_if_eq 113 (pc := 25) dX12_readsRank_25 (by decide) (fun h25 => ?_) (fun h25 => ?_)
          · exact absurd h25 (by decide)
          · refine go_aload_n (i := 0) (pc := 28) dX12_readsRank_28 rfl rfl ?_
            refine go_iload_n (i := 1) (pc := 29) dX12_readsRank_29 rfl rfl ?_
            refine go_if_ne 38 (pc := 30) dX12_readsRank_30 (by decide) (fun h30 => ?_) (fun h30 => ?_)
            · refine go_iload_n (i := 1) (pc := 38) dX12_readsRank_38 rfl rfl ?_
              refine go_iconst (nI 1) (pc := 39) dX12_readsRank_39 (by decide) ?_
              refine go_icmp_ne 48 (pc := 40) dX12_readsRank_40 (by decide) (fun h40 => ?_) (fun h40 => ?_)
              · exact absurd rfl h40
              · refine go_ldcS 4 rfl rfl (pc := 43) dX12_readsRank_43 ?_
                refine go_goto 50 (pc := 45) dX12_readsRank_45 (by decide) ?_
                refine go_callV ml_X12_172 mt_X12_takesOf (pc := 50) dX12_readsRank_50 (c_X12_takesOf (ti := 4) hK (by decide)) (by rfl) rfl (by rfl) (by first | decide | omega) (by decide) rfl rfl (Nat.le_of_ble_eq_true rfl) (fun r σ' hp => ?_)
                obtain ⟨rfl, hK2, hF2⟩ := hp
                dsimp only [zRet]
                rw [ea] at hK2 ⊢
                dsimp only [gM] at hK2 ⊢
                have hn2 := hF2.2.1 18 (by decide)
                rw [hn18] at hn2
                have hR2 := hRc.fr hF2 (by decide) (by decide)
                refine go_istore_n (i := 3) (pc := 53) dX12_readsRank_53 rfl (by decide) ?_
                refine go_iload_n (i := 3) (pc := 54) dX12_readsRank_54 rfl rfl ?_
                refine go_if_ge 60 (pc := 55) dX12_readsRank_55 (by decide) (fun h55 => ?_) (fun h55 => ?_)
                · refine go_aload_n (i := 0) (pc := 60) dX12_readsRank_60 rfl rfl ?_
                  refine go_iload_n (i := 1) (pc := 61) dX12_readsRank_61 rfl rfl ?_
                  refine go_iconst (nI 1) (pc := 62) dX12_readsRank_62 (by decide) ?_
                  first | with_reducible refine go_iaddN (pc := 63) dX12_readsRank_63 ?_ | refine go_iadd (pc := 63) dX12_readsRank_63 ?_
                  refine go_callV ml_X12_218 mt_X12_readsRank (pc := 64) dX12_readsRank_64 (hQ G (by omega) 2 n (p + 1) ys _ _ _ _ _ (by decide) ⟨hK2, hl40, hn2, hn4, hR2, by omega⟩ (by omega) e1) (by rfl) rfl (by rfl) (by first | decide | omega) (by decide) rfl rfl (Nat.le_of_ble_eq_true rfl) (fun r σ' hp => ?_)
                  obtain ⟨rfl, hK3, hn3, hR3, hF3⟩ := hp
                  dsimp only [zRet]
                  refine go_if_ne 72 (pc := 67) dX12_readsRank_67 (by decide) (fun h67 => ?_) (fun h67 => ?_)
                  · refine go_aload_n (i := 0) (pc := 72) dX12_readsRank_72 rfl rfl ?_
                    refine go_sipush (nI 2000) (pc := 73) dX12_readsRank_73 (by decide) ?_
                    refine go_iload_n (i := 3) (pc := 76) dX12_readsRank_76 rfl rfl ?_
                    first | with_reducible refine go_iaddN (pc := 77) dX12_readsRank_77 ?_ | refine go_iadd (pc := 77) dX12_readsRank_77 ?_
                    refine go_iload_n (i := 1) (pc := 78) dX12_readsRank_78 rfl rfl ?_
                    refine go_if_ne 86 (pc := 79) dX12_readsRank_79 (by decide) (fun h79 => ?_) (fun h79 => ?_)
                    · refine go_iload_n (i := 1) (pc := 86) dX12_readsRank_86 rfl rfl ?_
                      refine go_iconst (nI 1) (pc := 87) dX12_readsRank_87 (by decide) ?_
                      refine go_icmp_ne 95 (pc := 88) dX12_readsRank_88 (by decide) (fun h88 => ?_) (fun h88 => ?_)
                      · exact absurd rfl h88
                      · refine go_iconst (nI 3) (pc := 91) dX12_readsRank_91 (by decide) ?_
                        refine go_goto 96 (pc := 92) dX12_readsRank_92 (by decide) ?_
                        first | with_reducible refine go_iaddN (pc := 96) dX12_readsRank_96 ?_ | refine go_iadd (pc := 96) dX12_readsRank_96 ?_
                        rw [show 2000 + a + 3 = 2003 + a by omega]
                        refine go_callV ml_X12_212 mt_X12_codes (pc := 97) dX12_readsRank_97 (c_X12_codes (t := 2003 + a) hR3 (by rw [List.length_append]; omega)) (by rfl) rfl (by rfl) (by first | decide | omega) (by decide) rfl rfl (Nat.le_of_ble_eq_true rfl) (fun r σ' hp => ?_)
                        obtain ⟨rfl, hR4, hF4⟩ := hp
                        dsimp only [zRet]
                        have hK4 := hK3.fr hF4 (by decide) (by decide) (by decide)
                        have hn4b := hF4.2.1 18 (by decide)
                        rw [hn3] at hn4b
                        refine go_iload_n (i := 1) (pc := 100) dX12_readsRank_100 rfl rfl ?_
                        refine go_if_le 108 (pc := 101) dX12_readsRank_101 (by decide) (fun h101 => ?_) (fun h101 => ?_)
                        · exact absurd h101 (by decide)
                        · refine go_iconst (nI 1) (pc := 104) dX12_readsRank_104 (by decide) ?_
                          refine go_goto 109 (pc := 105) dX12_readsRank_105 (by decide) ?_
                          refine go_istore_n (i := 2) (pc := 109) dX12_readsRank_109 rfl (by decide) ?_
                          refine go_goto 24 (pc := 110) dX12_readsRank_110 (by decide) ?_
                          refine go_drop [0, 1, 2] rfl ?_
                          exact ih (by omega) _ _ _ _ _ _ _ _ ⟨hK4, hl40, hn4b, g5, hR4, by rw [List.length_append, List.length_append]; simp only [List.length_cons, List.length_nil]; omega⟩ (by omega) e2 (((hFr.tr (hF2.mono (by simp) (by simp))).tr hF3).tr (hF4.mono (by simp) (by simp)))
                    · exact absurd h79 (by decide)
                  · exact absurd h67 (by decide)
                · exact absurd (by rw [zi_ge0, nI_toInt (by omega)]; omega) h55
            · exact absurd h30 (by decide)
  have loop2 : ∀ G, G ≤ F → ∀ (n p : Nat) (ys : List Nat) (τ : zT) (b : Bool) (q n2 : Nat) (o : List Nat), rdI f lim τ n p ys → 4 * (lim - p) + 1 ≤ G → rP f lim G 6 n p = some (b, q, n2, o) → Fr9 [16, 18, 24] [12] σ τ → GoM E (2 * (F + 1) + 7) RX12 cX12_readsRank 4 (some .boolean) (rdP f lim σ b q n2 (ys ++ o)) τ 24 [(0, .ref (zA E 33 0)), (1, .int (nI 2)), (2, .int (nI 1))] [] := by
    intro G
    induction G with
    | zero => intro _ n p ys τ b q n2 o hI hG; omega
    | succ G ih =>
      intro hGF n p ys τ b q n2 o hI hG e hFr
      obtain ⟨hK, hl40, hn18, hn4, hRc, hyl⟩ := hI
      have hpl := hK.2.2.1
      rw [rP, if_neg (by decide), if_neg (by decide)] at e
      cases ea : amA 5 f p lim with
      | none =>
        rw [show amA (6 - 1) f p lim = none from ea] at e
        cases e
        refine go_iload_n (i := 2) (pc := 24) dX12_readsRank_24 rfl rfl ?_
        refine go_if_eq 113 (pc := 25) dX12_readsRank_25 (by decide) (fun h25 => ?_) (fun h25 => ?_)
        · exact absurd h25 (by decide)
        · refine go_aload_n (i := 0) (pc := 28) dX12_readsRank_28 rfl rfl ?_
          refine go_iload_n (i := 1) (pc := 29) dX12_readsRank_29 rfl rfl ?_
          refine go_if_ne 38 (pc := 30) dX12_readsRank_30 (by decide) (fun h30 => ?_) (fun h30 => ?_)
          · refine go_iload_n (i := 1) (pc := 38) dX12_readsRank_38 rfl rfl ?_
            refine go_iconst (nI 1) (pc := 39) dX12_readsRank_39 (by decide) ?_
            refine go_icmp_ne 48 (pc := 40) dX12_readsRank_40 (by decide) (fun h40 => ?_) (fun h40 => ?_)
            · refine go_ldcS 5 rfl rfl (pc := 48) dX12_readsRank_48 ?_
              refine go_callV ml_X12_172 mt_X12_takesOf (pc := 50) dX12_readsRank_50 (c_X12_takesOf (ti := 5) hK (by decide)) (by rfl) rfl (by rfl) (by first | decide | omega) (by decide) rfl rfl (Nat.le_of_ble_eq_true rfl) (fun r σ' hp => ?_)
              obtain ⟨rfl, hK2, hF2⟩ := hp
              dsimp only [zRet]
              rw [ea] at hK2 ⊢
              dsimp only [gM] at hK2 ⊢
              have hn2 := hF2.2.1 18 (by decide)
              rw [hn18] at hn2
              have hR2 := hRc.fr hF2 (by decide) (by decide)
              refine go_istore_n (i := 3) (pc := 53) dX12_readsRank_53 rfl (by decide) ?_
              refine go_iload_n (i := 3) (pc := 54) dX12_readsRank_54 rfl rfl ?_
              refine go_if_ge 60 (pc := 55) dX12_readsRank_55 (by decide) (fun h55 => ?_) (fun h55 => ?_)
              · exact absurd h55 (by decide)
              · refine go_iconst (nI 1) (pc := 58) dX12_readsRank_58 (by decide) ?_
                refine go_zreturn (pc := 59) dX12_readsRank_59 rfl (by rfl) ?_
                exact ⟨rfl, hK2, hn2, by rw [List.append_nil]; exact hR2, hFr.tr (hF2.mono (by simp) (by simp))⟩
            · exact absurd h40 (by decide)
          · exact absurd h30 (by decide)
      | some a =>
        rw [show amA (6 - 1) f p lim = some a from ea] at e
        have ha := amA_lt ea
        have ha3 : a < 3 := Nat.lt_of_lt_of_le ha.2.1 (by decide)
        dsimp only at e
        obtain ⟨b1, q1, n1, o1, e1, g⟩ := rP_tot (f := f) (lim := lim) G 3 n (p + 1) (by decide) hn4 (by omega) (by omega)
        rw [show rP f lim G (6 - 3) n (p + 1) = some (b1, q1, n1, o1) from e1] at e
        dsimp only at e
        have g1 := g.1
        have g2 := g.2.1
        have g3 := g.2.2.1
        have g5 := g.2.2.2.2.1
        cases b1 with
        | false =>
          rw [if_neg (by decide)] at e
          cases e
          refine go_iload_n (i := 2) (pc := 24) dX12_readsRank_24 rfl rfl ?_
          refine go_if_eq 113 (pc := 25) dX12_readsRank_25 (by decide) (fun h25 => ?_) (fun h25 => ?_)
          · exact absurd h25 (by decide)
          · refine go_aload_n (i := 0) (pc := 28) dX12_readsRank_28 rfl rfl ?_
            refine go_iload_n (i := 1) (pc := 29) dX12_readsRank_29 rfl rfl ?_
            refine go_if_ne 38 (pc := 30) dX12_readsRank_30 (by decide) (fun h30 => ?_) (fun h30 => ?_)
            · refine go_iload_n (i := 1) (pc := 38) dX12_readsRank_38 rfl rfl ?_
              refine go_iconst (nI 1) (pc := 39) dX12_readsRank_39 (by decide) ?_
              refine go_icmp_ne 48 (pc := 40) dX12_readsRank_40 (by decide) (fun h40 => ?_) (fun h40 => ?_)
              · refine go_ldcS 5 rfl rfl (pc := 48) dX12_readsRank_48 ?_
                refine go_callV ml_X12_172 mt_X12_takesOf (pc := 50) dX12_readsRank_50 (c_X12_takesOf (ti := 5) hK (by decide)) (by rfl) rfl (by rfl) (by first | decide | omega) (by decide) rfl rfl (Nat.le_of_ble_eq_true rfl) (fun r σ' hp => ?_)
                obtain ⟨rfl, hK2, hF2⟩ := hp
                dsimp only [zRet]
                rw [ea] at hK2 ⊢
                dsimp only [gM] at hK2 ⊢
                have hn2 := hF2.2.1 18 (by decide)
                rw [hn18] at hn2
                have hR2 := hRc.fr hF2 (by decide) (by decide)
                refine go_istore_n (i := 3) (pc := 53) dX12_readsRank_53 rfl (by decide) ?_
                refine go_iload_n (i := 3) (pc := 54) dX12_readsRank_54 rfl rfl ?_
                refine go_if_ge 60 (pc := 55) dX12_readsRank_55 (by decide) (fun h55 => ?_) (fun h55 => ?_)
                · refine go_aload_n (i := 0) (pc := 60) dX12_readsRank_60 rfl rfl ?_
                  refine go_iload_n (i := 1) (pc := 61) dX12_readsRank_61 rfl rfl ?_
                  refine go_iconst (nI 1) (pc := 62) dX12_readsRank_62 (by decide) ?_
                  first | with_reducible refine go_iaddN (pc := 63) dX12_readsRank_63 ?_ | refine go_iadd (pc := 63) dX12_readsRank_63 ?_
                  refine go_callV ml_X12_218 mt_X12_readsRank (pc := 64) dX12_readsRank_64 (hQ G (by omega) 3 n (p + 1) ys _ _ _ _ _ (by decide) ⟨hK2, hl40, hn2, hn4, hR2, by omega⟩ (by omega) e1) (by rfl) rfl (by rfl) (by first | decide | omega) (by decide) rfl rfl (Nat.le_of_ble_eq_true rfl) (fun r σ' hp => ?_)
                  obtain ⟨rfl, hK3, hn3, hR3, hF3⟩ := hp
                  dsimp only [zRet]
                  refine go_if_ne 72 (pc := 67) dX12_readsRank_67 (by decide) (fun h67 => ?_) (fun h67 => ?_)
                  · exact absurd rfl h67
                  · refine go_iconst (nI 0) (pc := 70) dX12_readsRank_70 (by decide) ?_
                    refine go_zreturn (pc := 71) dX12_readsRank_71 rfl (by rfl) ?_
                    exact ⟨rfl, hK3, hn3, hR3, (hFr.tr (hF2.mono (by simp) (by simp))).tr hF3⟩
                · exact absurd (by rw [zi_ge0, nI_toInt (by omega)]; omega) h55
              · exact absurd h40 (by decide)
            · exact absurd h30 (by decide)
        | true =>
          rw [if_pos rfl, if_neg (by decide)] at e
          obtain ⟨b2, q2, n3, o2, e2, k⟩ := rP_tot (f := f) (lim := lim) G 6 n1 q1 (by decide) g5 g2 (by omega)
          rw [e2] at e
          cases e
          rw [show ys ++ (o1 ++ [2000 + a + (if 6 = 5 then 3 else 5)] ++ o2) = ys ++ o1 ++ [2005 + a] ++ o2 by rw [if_neg (by decide), show 2000 + a + 5 = 2005 + a by omega]; simp only [List.append_assoc]]
          refine go_iload_n (i := 2) (pc := 24) dX12_readsRank_24 rfl rfl ?_
          refine go_if_eq 113 (pc := 25) dX12_readsRank_25 (by decide) (fun h25 => ?_) (fun h25 => ?_)
          · exact absurd h25 (by decide)
          · refine go_aload_n (i := 0) (pc := 28) dX12_readsRank_28 rfl rfl ?_
            refine go_iload_n (i := 1) (pc := 29) dX12_readsRank_29 rfl rfl ?_
            refine go_if_ne 38 (pc := 30) dX12_readsRank_30 (by decide) (fun h30 => ?_) (fun h30 => ?_)
            · refine go_iload_n (i := 1) (pc := 38) dX12_readsRank_38 rfl rfl ?_
              refine go_iconst (nI 1) (pc := 39) dX12_readsRank_39 (by decide) ?_
              refine go_icmp_ne 48 (pc := 40) dX12_readsRank_40 (by decide) (fun h40 => ?_) (fun h40 => ?_)
              · refine go_ldcS 5 rfl rfl (pc := 48) dX12_readsRank_48 ?_
                refine go_callV ml_X12_172 mt_X12_takesOf (pc := 50) dX12_readsRank_50 (c_X12_takesOf (ti := 5) hK (by decide)) (by rfl) rfl (by rfl) (by first | decide | omega) (by decide) rfl rfl (Nat.le_of_ble_eq_true rfl) (fun r σ' hp => ?_)
                obtain ⟨rfl, hK2, hF2⟩ := hp
                dsimp only [zRet]
                rw [ea] at hK2 ⊢
                dsimp only [gM] at hK2 ⊢
                have hn2 := hF2.2.1 18 (by decide)
                rw [hn18] at hn2
                have hR2 := hRc.fr hF2 (by decide) (by decide)
                refine go_istore_n (i := 3) (pc := 53) dX12_readsRank_53 rfl (by decide) ?_
                refine go_iload_n (i := 3) (pc := 54) dX12_readsRank_54 rfl rfl ?_
                refine go_if_ge 60 (pc := 55) dX12_readsRank_55 (by decide) (fun h55 => ?_) (fun h55 => ?_)
                · refine go_aload_n (i := 0) (pc := 60) dX12_readsRank_60 rfl rfl ?_
                  refine go_iload_n (i := 1) (pc := 61) dX12_readsRank_61 rfl rfl ?_
                  refine go_iconst (nI 1) (pc := 62) dX12_readsRank_62 (by decide) ?_
                  first | with_reducible refine go_iaddN (pc := 63) dX12_readsRank_63 ?_ | refine go_iadd (pc := 63) dX12_readsRank_63 ?_
                  refine go_callV ml_X12_218 mt_X12_readsRank (pc := 64) dX12_readsRank_64 (hQ G (by omega) 3 n (p + 1) ys _ _ _ _ _ (by decide) ⟨hK2, hl40, hn2, hn4, hR2, by omega⟩ (by omega) e1) (by rfl) rfl (by rfl) (by first | decide | omega) (by decide) rfl rfl (Nat.le_of_ble_eq_true rfl) (fun r σ' hp => ?_)
                  obtain ⟨rfl, hK3, hn3, hR3, hF3⟩ := hp
                  dsimp only [zRet]
                  refine go_if_ne 72 (pc := 67) dX12_readsRank_67 (by decide) (fun h67 => ?_) (fun h67 => ?_)
                  · refine go_aload_n (i := 0) (pc := 72) dX12_readsRank_72 rfl rfl ?_
                    refine go_sipush (nI 2000) (pc := 73) dX12_readsRank_73 (by decide) ?_
                    refine go_iload_n (i := 3) (pc := 76) dX12_readsRank_76 rfl rfl ?_
                    first | with_reducible refine go_iaddN (pc := 77) dX12_readsRank_77 ?_ | refine go_iadd (pc := 77) dX12_readsRank_77 ?_
                    refine go_iload_n (i := 1) (pc := 78) dX12_readsRank_78 rfl rfl ?_
                    refine go_if_ne 86 (pc := 79) dX12_readsRank_79 (by decide) (fun h79 => ?_) (fun h79 => ?_)
                    · refine go_iload_n (i := 1) (pc := 86) dX12_readsRank_86 rfl rfl ?_
                      refine go_iconst (nI 1) (pc := 87) dX12_readsRank_87 (by decide) ?_
                      refine go_icmp_ne 95 (pc := 88) dX12_readsRank_88 (by decide) (fun h88 => ?_) (fun h88 => ?_)
                      · refine go_iconst (nI 5) (pc := 95) dX12_readsRank_95 (by decide) ?_
                        first | with_reducible refine go_iaddN (pc := 96) dX12_readsRank_96 ?_ | refine go_iadd (pc := 96) dX12_readsRank_96 ?_
                        rw [show 2000 + a + 5 = 2005 + a by omega]
                        refine go_callV ml_X12_212 mt_X12_codes (pc := 97) dX12_readsRank_97 (c_X12_codes (t := 2005 + a) hR3 (by rw [List.length_append]; omega)) (by rfl) rfl (by rfl) (by first | decide | omega) (by decide) rfl rfl (Nat.le_of_ble_eq_true rfl) (fun r σ' hp => ?_)
                        obtain ⟨rfl, hR4, hF4⟩ := hp
                        dsimp only [zRet]
                        have hK4 := hK3.fr hF4 (by decide) (by decide) (by decide)
                        have hn4b := hF4.2.1 18 (by decide)
                        rw [hn3] at hn4b
                        refine go_iload_n (i := 1) (pc := 100) dX12_readsRank_100 rfl rfl ?_
                        refine go_if_le 108 (pc := 101) dX12_readsRank_101 (by decide) (fun h101 => ?_) (fun h101 => ?_)
                        · exact absurd h101 (by decide)
                        · refine go_iconst (nI 1) (pc := 104) dX12_readsRank_104 (by decide) ?_
                          refine go_goto 109 (pc := 105) dX12_readsRank_105 (by decide) ?_
                          refine go_istore_n (i := 2) (pc := 109) dX12_readsRank_109 rfl (by decide) ?_
                          refine go_goto 24 (pc := 110) dX12_readsRank_110 (by decide) ?_
                          refine go_drop [0, 1, 2] rfl ?_
                          exact ih (by omega) _ _ _ _ _ _ _ _ ⟨hK4, hl40, hn4b, g5, hR4, by rw [List.length_append, List.length_append]; simp only [List.length_cons, List.length_nil]; omega⟩ (by omega) e2 (((hFr.tr (hF2.mono (by simp) (by simp))).tr hF3).tr (hF4.mono (by simp) (by simp)))
                      · exact absurd h88 (by decide)
                    · exact absurd h79 (by decide)
                  · exact absurd h67 (by decide)
                · exact absurd (by rw [zi_ge0, nI_toInt (by omega)]; omega) h55
              · exact absurd h40 (by decide)
            · exact absurd h30 (by decide)
  have hmc : m = 3 ∨ m = 0 ∨ m = 1 ∨ m = 2 := by omega
  rcases hmc with hmc | hmc | hmc | hmc
  · subst hmc
    refine go_iload_n (i := 1) (pc := 0) dX12_readsRank_0 rfl rfl ?_
    refine go_iconst (nI 3) (pc := 1) dX12_readsRank_1 (by decide) ?_
    refine go_icmp_ne 10 (pc := 2) dX12_readsRank_2 (by decide) (fun h2 => ?_) (fun h2 => ?_)
    · exact absurd rfl h2
    · refine go_aload_n (i := 0) (pc := 5) dX12_readsRank_5 rfl rfl ?_
      refine go_callV ml_X12_209 mt_X12_readsThing (pc := 6) dX12_readsRank_6 (hT n p ys σ b q n2 o hI (by omega) e) (by rfl) rfl (by rfl) (by first | decide | omega) (by decide) rfl rfl (Nat.le_of_ble_eq_true rfl) (fun r σ' hp => ?_)
      obtain ⟨rfl, hR⟩ := hp
      dsimp only [zRet]
      refine go_zreturn (pc := 9) dX12_readsRank_9 rfl (by apply zb_nar) ?_
      exact ⟨rfl, hR⟩
  · subst hmc
    rw [rP, if_neg (by decide), if_pos (by decide)] at e
    obtain ⟨b1, q1, n1, o1, e1, g⟩ := rP_tot (f := f) (lim := lim) F 1 n p (by decide) hI.2.2.2.1 hpl0 (by omega)
    rw [show rP f lim F (0 + 1) n p = some (b1, q1, n1, o1) from e1] at e
    dsimp only at e
    have g2 := g.2.1
    have g3 := g.2.2.1
    have g5 := g.2.2.2.2.1
    have hyl := hI.2.2.2.2.2
    cases b1 with
    | false =>
      rw [if_neg (by decide)] at e
      cases e
      refine go_iload_n (i := 1) (pc := 0) dX12_readsRank_0 rfl rfl ?_
      refine go_iconst (nI 3) (pc := 1) dX12_readsRank_1 (by decide) ?_
      refine go_icmp_ne 10 (pc := 2) dX12_readsRank_2 (by decide) (fun h2 => ?_) (fun h2 => ?_)
      · refine go_aload_n (i := 0) (pc := 10) dX12_readsRank_10 rfl rfl ?_
        refine go_iload_n (i := 1) (pc := 11) dX12_readsRank_11 rfl rfl ?_
        refine go_iconst (nI 1) (pc := 12) dX12_readsRank_12 (by decide) ?_
        first | with_reducible refine go_iaddN (pc := 13) dX12_readsRank_13 ?_ | refine go_iadd (pc := 13) dX12_readsRank_13 ?_
        refine go_callV ml_X12_218 mt_X12_readsRank (pc := 14) dX12_readsRank_14 (hQ F (Nat.le_refl _) 1 n p ys σ _ _ _ _ (by decide) hI (by omega) e1) (by rfl) rfl (by rfl) (by first | decide | omega) (by decide) rfl rfl (Nat.le_of_ble_eq_true rfl) (fun r σ' hp => ?_)
        obtain ⟨rfl, hK3, hn3, hR3, hF3⟩ := hp
        dsimp only [zRet]
        refine go_if_ne 22 (pc := 17) dX12_readsRank_17 (by decide) (fun h17 => ?_) (fun h17 => ?_)
        · exact absurd rfl h17
        · refine go_iconst (nI 0) (pc := 20) dX12_readsRank_20 (by decide) ?_
          refine go_zreturn (pc := 21) dX12_readsRank_21 rfl (by rfl) ?_
          exact ⟨rfl, hK3, hn3, hR3, hF3⟩
      · exact absurd h2 (by decide)
    | true =>
      have g9 := (g.2.2.2.2.2.2 rfl).2.1 (by decide)
      rw [if_pos rfl] at e
      obtain ⟨b2, q2, n3, o2, e2, k⟩ := rP_tot (f := f) (lim := lim) F 4 n1 q1 (by decide) g5 g2 (by omega)
      rw [show rP f lim F (0 + 4) n1 q1 = some (b2, q2, n3, o2) from e2] at e
      cases e
      rw [← List.append_assoc]
      refine go_iload_n (i := 1) (pc := 0) dX12_readsRank_0 rfl rfl ?_
      refine go_iconst (nI 3) (pc := 1) dX12_readsRank_1 (by decide) ?_
      refine go_icmp_ne 10 (pc := 2) dX12_readsRank_2 (by decide) (fun h2 => ?_) (fun h2 => ?_)
      · refine go_aload_n (i := 0) (pc := 10) dX12_readsRank_10 rfl rfl ?_
        refine go_iload_n (i := 1) (pc := 11) dX12_readsRank_11 rfl rfl ?_
        refine go_iconst (nI 1) (pc := 12) dX12_readsRank_12 (by decide) ?_
        first | with_reducible refine go_iaddN (pc := 13) dX12_readsRank_13 ?_ | refine go_iadd (pc := 13) dX12_readsRank_13 ?_
        refine go_callV ml_X12_218 mt_X12_readsRank (pc := 14) dX12_readsRank_14 (hQ F (Nat.le_refl _) 1 n p ys σ _ _ _ _ (by decide) hI (by omega) e1) (by rfl) rfl (by rfl) (by first | decide | omega) (by decide) rfl rfl (Nat.le_of_ble_eq_true rfl) (fun r σ' hp => ?_)
        obtain ⟨rfl, hK3, hn3, hR3, hF3⟩ := hp
        dsimp only [zRet]
        refine go_if_ne 22 (pc := 17) dX12_readsRank_17 (by decide) (fun h17 => ?_) (fun h17 => ?_)
        · refine go_iconst (nI 1) (pc := 22) dX12_readsRank_22 (by decide) ?_
          refine go_istore_n (i := 2) (pc := 23) dX12_readsRank_23 rfl (by decide) ?_
          exact loop0 F (Nat.le_refl _) _ _ _ _ _ _ _ _ ⟨hK3, hI.2.1, hn3, g5, hR3, by rw [List.length_append]; omega⟩ (by omega) e2 hF3
        · exact absurd h17 (by decide)
      · exact absurd h2 (by decide)
  · subst hmc
    rw [rP, if_neg (by decide), if_pos (by decide)] at e
    obtain ⟨b1, q1, n1, o1, e1, g⟩ := rP_tot (f := f) (lim := lim) F 2 n p (by decide) hI.2.2.2.1 hpl0 (by omega)
    rw [show rP f lim F (1 + 1) n p = some (b1, q1, n1, o1) from e1] at e
    dsimp only at e
    have g2 := g.2.1
    have g3 := g.2.2.1
    have g5 := g.2.2.2.2.1
    have hyl := hI.2.2.2.2.2
    cases b1 with
    | false =>
      rw [if_neg (by decide)] at e
      cases e
      refine go_iload_n (i := 1) (pc := 0) dX12_readsRank_0 rfl rfl ?_
      refine go_iconst (nI 3) (pc := 1) dX12_readsRank_1 (by decide) ?_
      refine go_icmp_ne 10 (pc := 2) dX12_readsRank_2 (by decide) (fun h2 => ?_) (fun h2 => ?_)
      · refine go_aload_n (i := 0) (pc := 10) dX12_readsRank_10 rfl rfl ?_
        refine go_iload_n (i := 1) (pc := 11) dX12_readsRank_11 rfl rfl ?_
        refine go_iconst (nI 1) (pc := 12) dX12_readsRank_12 (by decide) ?_
        first | with_reducible refine go_iaddN (pc := 13) dX12_readsRank_13 ?_ | refine go_iadd (pc := 13) dX12_readsRank_13 ?_
        refine go_callV ml_X12_218 mt_X12_readsRank (pc := 14) dX12_readsRank_14 (hQ F (Nat.le_refl _) 2 n p ys σ _ _ _ _ (by decide) hI (by omega) e1) (by rfl) rfl (by rfl) (by first | decide | omega) (by decide) rfl rfl (Nat.le_of_ble_eq_true rfl) (fun r σ' hp => ?_)
        obtain ⟨rfl, hK3, hn3, hR3, hF3⟩ := hp
        dsimp only [zRet]
        refine go_if_ne 22 (pc := 17) dX12_readsRank_17 (by decide) (fun h17 => ?_) (fun h17 => ?_)
        · exact absurd rfl h17
        · refine go_iconst (nI 0) (pc := 20) dX12_readsRank_20 (by decide) ?_
          refine go_zreturn (pc := 21) dX12_readsRank_21 rfl (by rfl) ?_
          exact ⟨rfl, hK3, hn3, hR3, hF3⟩
      · exact absurd h2 (by decide)
    | true =>
      have g9 := (g.2.2.2.2.2.2 rfl).2.1 (by decide)
      rw [if_pos rfl] at e
      obtain ⟨b2, q2, n3, o2, e2, k⟩ := rP_tot (f := f) (lim := lim) F 5 n1 q1 (by decide) g5 g2 (by omega)
      rw [show rP f lim F (1 + 4) n1 q1 = some (b2, q2, n3, o2) from e2] at e
      cases e
      rw [← List.append_assoc]
      refine go_iload_n (i := 1) (pc := 0) dX12_readsRank_0 rfl rfl ?_
      refine go_iconst (nI 3) (pc := 1) dX12_readsRank_1 (by decide) ?_
      refine go_icmp_ne 10 (pc := 2) dX12_readsRank_2 (by decide) (fun h2 => ?_) (fun h2 => ?_)
      · refine go_aload_n (i := 0) (pc := 10) dX12_readsRank_10 rfl rfl ?_
        refine go_iload_n (i := 1) (pc := 11) dX12_readsRank_11 rfl rfl ?_
        refine go_iconst (nI 1) (pc := 12) dX12_readsRank_12 (by decide) ?_
        first | with_reducible refine go_iaddN (pc := 13) dX12_readsRank_13 ?_ | refine go_iadd (pc := 13) dX12_readsRank_13 ?_
        refine go_callV ml_X12_218 mt_X12_readsRank (pc := 14) dX12_readsRank_14 (hQ F (Nat.le_refl _) 2 n p ys σ _ _ _ _ (by decide) hI (by omega) e1) (by rfl) rfl (by rfl) (by first | decide | omega) (by decide) rfl rfl (Nat.le_of_ble_eq_true rfl) (fun r σ' hp => ?_)
        obtain ⟨rfl, hK3, hn3, hR3, hF3⟩ := hp
        dsimp only [zRet]
        refine go_if_ne 22 (pc := 17) dX12_readsRank_17 (by decide) (fun h17 => ?_) (fun h17 => ?_)
        · refine go_iconst (nI 1) (pc := 22) dX12_readsRank_22 (by decide) ?_
          refine go_istore_n (i := 2) (pc := 23) dX12_readsRank_23 rfl (by decide) ?_
          exact loop1 F (Nat.le_refl _) _ _ _ _ _ _ _ _ ⟨hK3, hI.2.1, hn3, g5, hR3, by rw [List.length_append]; omega⟩ (by omega) e2 hF3
        · exact absurd h17 (by decide)
      · exact absurd h2 (by decide)
  · subst hmc
    rw [rP, if_neg (by decide), if_pos (by decide)] at e
    obtain ⟨b1, q1, n1, o1, e1, g⟩ := rP_tot (f := f) (lim := lim) F 3 n p (by decide) hI.2.2.2.1 hpl0 (by omega)
    rw [show rP f lim F (2 + 1) n p = some (b1, q1, n1, o1) from e1] at e
    dsimp only at e
    have g2 := g.2.1
    have g3 := g.2.2.1
    have g5 := g.2.2.2.2.1
    have hyl := hI.2.2.2.2.2
    cases b1 with
    | false =>
      rw [if_neg (by decide)] at e
      cases e
      refine go_iload_n (i := 1) (pc := 0) dX12_readsRank_0 rfl rfl ?_
      refine go_iconst (nI 3) (pc := 1) dX12_readsRank_1 (by decide) ?_
      refine go_icmp_ne 10 (pc := 2) dX12_readsRank_2 (by decide) (fun h2 => ?_) (fun h2 => ?_)
      · refine go_aload_n (i := 0) (pc := 10) dX12_readsRank_10 rfl rfl ?_
        refine go_iload_n (i := 1) (pc := 11) dX12_readsRank_11 rfl rfl ?_
        refine go_iconst (nI 1) (pc := 12) dX12_readsRank_12 (by decide) ?_
        first | with_reducible refine go_iaddN (pc := 13) dX12_readsRank_13 ?_ | refine go_iadd (pc := 13) dX12_readsRank_13 ?_
        refine go_callV ml_X12_218 mt_X12_readsRank (pc := 14) dX12_readsRank_14 (hQ F (Nat.le_refl _) 3 n p ys σ _ _ _ _ (by decide) hI (by omega) e1) (by rfl) rfl (by rfl) (by first | decide | omega) (by decide) rfl rfl (Nat.le_of_ble_eq_true rfl) (fun r σ' hp => ?_)
        obtain ⟨rfl, hK3, hn3, hR3, hF3⟩ := hp
        dsimp only [zRet]
        refine go_if_ne 22 (pc := 17) dX12_readsRank_17 (by decide) (fun h17 => ?_) (fun h17 => ?_)
        · exact absurd rfl h17
        · refine go_iconst (nI 0) (pc := 20) dX12_readsRank_20 (by decide) ?_
          refine go_zreturn (pc := 21) dX12_readsRank_21 rfl (by rfl) ?_
          exact ⟨rfl, hK3, hn3, hR3, hF3⟩
      · exact absurd h2 (by decide)
    | true =>
      have g9 := (g.2.2.2.2.2.2 rfl).2.1 (by decide)
      rw [if_pos rfl] at e
      obtain ⟨b2, q2, n3, o2, e2, k⟩ := rP_tot (f := f) (lim := lim) F 6 n1 q1 (by decide) g5 g2 (by omega)
      rw [show rP f lim F (2 + 4) n1 q1 = some (b2, q2, n3, o2) from e2] at e
      cases e
      rw [← List.append_assoc]
      refine go_iload_n (i := 1) (pc := 0) dX12_readsRank_0 rfl rfl ?_
      refine go_iconst (nI 3) (pc := 1) dX12_readsRank_1 (by decide) ?_
      refine go_icmp_ne 10 (pc := 2) dX12_readsRank_2 (by decide) (fun h2 => ?_) (fun h2 => ?_)
      · refine go_aload_n (i := 0) (pc := 10) dX12_readsRank_10 rfl rfl ?_
        refine go_iload_n (i := 1) (pc := 11) dX12_readsRank_11 rfl rfl ?_
        refine go_iconst (nI 1) (pc := 12) dX12_readsRank_12 (by decide) ?_
        first | with_reducible refine go_iaddN (pc := 13) dX12_readsRank_13 ?_ | refine go_iadd (pc := 13) dX12_readsRank_13 ?_
        refine go_callV ml_X12_218 mt_X12_readsRank (pc := 14) dX12_readsRank_14 (hQ F (Nat.le_refl _) 3 n p ys σ _ _ _ _ (by decide) hI (by omega) e1) (by rfl) rfl (by rfl) (by first | decide | omega) (by decide) rfl rfl (Nat.le_of_ble_eq_true rfl) (fun r σ' hp => ?_)
        obtain ⟨rfl, hK3, hn3, hR3, hF3⟩ := hp
        dsimp only [zRet]
        refine go_if_ne 22 (pc := 17) dX12_readsRank_17 (by decide) (fun h17 => ?_) (fun h17 => ?_)
        · refine go_iconst (nI 1) (pc := 22) dX12_readsRank_22 (by decide) ?_
          refine go_istore_n (i := 2) (pc := 23) dX12_readsRank_23 rfl (by decide) ?_
          exact loop2 F (Nat.le_refl _) _ _ _ _ _ _ _ _ ⟨hK3, hI.2.1, hn3, g5, hR3, by rw [List.length_append]; omega⟩ (by omega) e2 hF3
        · exact absurd h17 (by decide)
      · exact absurd h2 (by decide)

theorem rd_all {E : zE} {f : Nat → Nat} {lim : Nat} : ∀ F, rdT E f lim F ∧ rdQ E f lim F := by
  have h : ∀ F, ∀ G, G ≤ F → rdT E f lim G ∧ rdQ E f lim G := by
    intro F
    induction F with
    | zero =>
      intro G hG
      have e0 : G = 0 := by omega
      subst e0
      exact ⟨fun n p ys σ b q n2 o _ h => by omega, fun m n p ys σ b q n2 o _ _ h => by omega⟩
    | succ F ih =>
      intro G hG
      by_cases hle : G ≤ F
      · exact ih G hle
      · have e0 : G = F + 1 := by omega
        subst e0
        have hT := rdT_s (ih F (Nat.le_refl _)).1 (ih F (Nat.le_refl _)).2
        exact ⟨hT, rdQ_s hT (fun G h => (ih G h).2)⟩
  exact fun F => h F F (Nat.le_refl _)

