theorem law_loop {E : zE} {b L : Nat} {scr : Nat → Int32} (hL : L ≤ 2560) : ∀ (n j : Nat), j + n = 513 → j ≤ 512 → ∀ (σ : zT) (tx : Nat × (Nat → Nat)) (bd : Nat × (Nat → Nat) × (Nat → Nat)) (sk : Nat × (Nat → Nat)) (tw : Nat × (Nat → Nat) × (Nat → Nat)) (xs : List Nat) (ld : Nat × (Nat → Nat)) (pa sh : Nat × (Nat → Nat → Nat)) (ru : Nat × (Nat → Nat) × (Nat → Nat)) (to : Nat × (Nat → Int64)) (cz sz : Nat),
    ClsIs σ tx bd sk tw xs ld pa sh ru to → RefIs σ tx bd sk tw xs ld pa sh ru to → Bnd j ld.2 pa sh → cz ≤ 1000 + j → sz ≤ 10000 + 6 * j → GL E b L scr cz sz σ 23 (lvL E b j) [] := by
  intro n
  induction n with
  | zero => intro j h1 h2; exact absurd h1 (by omega)
  | succ n ih =>
    intro j h1 h2 σ tx bd sk tw xs ld pa sh ru to cz sz hC hR hB hcz hsz
    refine gx_iload (pc := 23) dL_law_23 rfl ?_
    refine gx_aload_n (i := 0) (pc := 25) dL_law_25 rfl rfl ?_
    refine gl_slen (pc := 26) dL_law_26 ?_
    refine gx_iconst (nI 5) (pc := 27) dL_law_27 (by decide) ?_
    refine gx_isub (pc := 28) dL_law_28 ?_
    refine gx_icmp_gt 1498 (pc := 29) dL_law_29 (by decide) (fun h29 => ?_) (fun h29 => ?_)
    · refine gx_iconst (nI 1) (pc := 1498) dL_law_1498 (by decide) ?_
      exact gl_end dL_law_1499 (by omega) (by omega)
    · have g5 : 5 * j + 5 ≤ L := by
        have h29 : (nI (5 * j)).toInt ≤ (nI L - nI 5).toInt := by
          have := Int32.not_lt.mp h29
          exact Int32.le_iff_toInt_le.mp this
        rw [pk_sub_toInt (by omega) (by decide), nI_toInt (by omega)] at h29
        omega
      have hg : Beg L j cz sz := ⟨g5, hL, by omega, by omega⟩
      have hf : Fnl E b L scr j cz sz := by
        intro σ1 tx1 bd1 sk1 tw1 ys1 ld1 pa1 sh1 ru1 to1 cz1 sz1 q1 q2 q3 q4 q5
        refine gx_iinc (nI (5 * (j + 1))) (pc := 1492) dL_law_1492 rfl (by rw [show Int32.ofInt 5 = nI 5 by decide, nI_add]; rfl) (by decide) ?_
        refine gx_goto 23 (pc := 1495) dL_law_1495 (by decide) ?_
        refine gx_drop [0, 1, 2, 3, 4] rfl ?_
        exact ih (j + 1) (by omega) (by omega) _ _ _ _ _ _ _ _ _ _ _ _ _ q1 q2 q3 (by omega) (by omega)
      refine gx_aload_n (i := 0) (pc := 32) dL_law_32 rfl rfl ?_
      refine gx_iload (pc := 33) dL_law_33 rfl ?_
      refine gl_sld (5 * j) (pc := 35) dL_law_35 rfl (by omega) (by omega) ?_
      refine gx_bipush (nI 63) (pc := 36) dL_law_36 (by decide) ?_
      refine gx_iand (pc := 38) dL_law_38 ?_
      rw [pk_and _ 6 (by decide)]
      have hk : (scr (5 * j)).toBitVec.toNat % 2 ^ 6 < 64 := Nat.mod_lt _ (by decide)
      generalize (scr (5 * j)).toBitVec.toNat % 2 ^ 6 = k at hk ⊢
      rcases (show k < 0 ∨ 44 < k ∨ k = 0 ∨ k = 1 ∨ k = 2 ∨ k = 3 ∨ k = 4 ∨ k = 5 ∨ k = 6 ∨ k = 7 ∨ k = 8 ∨ k = 9 ∨ k = 10 ∨ k = 11 ∨ k = 12 ∨ k = 13 ∨ k = 14 ∨ k = 15 ∨ k = 16 ∨ k = 17 ∨ k = 18 ∨ k = 19 ∨ k = 20 ∨ k = 21 ∨ k = 22 ∨ k = 23 ∨ k = 24 ∨ k = 25 ∨ k = 26 ∨ k = 27 ∨ k = 28 ∨ k = 29 ∨ k = 30 ∨ k = 31 ∨ k = 32 ∨ k = 33 ∨ k = 34 ∨ k = 35 ∨ k = 36 ∨ k = 37 ∨ k = 38 ∨ k = 39 ∨ k = 40 ∨ k = 41 ∨ k = 42 ∨ k = 43 ∨ k = 44 by omega) with h39 | h39 | h39 | h39 | h39 | h39 | h39 | h39 | h39 | h39 | h39 | h39 | h39 | h39 | h39 | h39 | h39 | h39 | h39 | h39 | h39 | h39 | h39 | h39 | h39 | h39 | h39 | h39 | h39 | h39 | h39 | h39 | h39 | h39 | h39 | h39 | h39 | h39 | h39 | h39 | h39 | h39 | h39 | h39 | h39 | h39 | h39
      · exact absurd h39 (Nat.not_lt_zero _)
      · refine gx_tableOut 1492 (pc := 39) dL_law_39 (by rw [nI_toInt (by omega)]; omega) (by decide) ?_
        exact hf _ _ _ _ _ _ _ _ _ _ _ _ _ hC hR hB.up (by omega) (by omega)
      · refine gx_tableIn 232 (pc := 39) dL_law_39 (by rw [nI_toInt (by omega)]; omega) (by rw [nI_toInt (by omega)]; omega) (by rw [nI_toInt (by omega)]; rw [h39]; rfl) (by decide) ?_
        exact case_sign hf hg hC hR hB
      · refine gx_tableIn 257 (pc := 39) dL_law_39 (by rw [nI_toInt (by omega)]; omega) (by rw [nI_toInt (by omega)]; omega) (by rw [nI_toInt (by omega)]; rw [h39]; rfl) (by decide) ?_
        exact case_end hf hg hC hR hB
      · refine gx_tableIn 282 (pc := 39) dL_law_39 (by rw [nI_toInt (by omega)]; omega) (by rw [nI_toInt (by omega)]; omega) (by rw [nI_toInt (by omega)]; rw [h39]; rfl) (by decide) ?_
        exact case_line hf hg hC hR hB
      · refine gx_tableIn 295 (pc := 39) dL_law_39 (by rw [nI_toInt (by omega)]; omega) (by rw [nI_toInt (by omega)]; omega) (by rw [nI_toInt (by omega)]; rw [h39]; rfl) (by decide) ?_
        exact case_carriers hf hg hC hR hB
      · refine gx_tableIn 308 (pc := 39) dL_law_39 (by rw [nI_toInt (by omega)]; omega) (by rw [nI_toInt (by omega)]; omega) (by rw [nI_toInt (by omega)]; rw [h39]; rfl) (by decide) ?_
        exact case_weather hf hg hC hR hB
      · refine gx_tableIn 321 (pc := 39) dL_law_39 (by rw [nI_toInt (by omega)]; omega) (by rw [nI_toInt (by omega)]; omega) (by rw [nI_toInt (by omega)]; rw [h39]; rfl) (by decide) ?_
        exact case_mouths hf hg hC hR hB
      · refine gx_tableIn 334 (pc := 39) dL_law_39 (by rw [nI_toInt (by omega)]; omega) (by rw [nI_toInt (by omega)]; omega) (by rw [nI_toInt (by omega)]; rw [h39]; rfl) (by decide) ?_
        exact case_rule hf hg hC hR hB
      · refine gx_tableIn 347 (pc := 39) dL_law_39 (by rw [nI_toInt (by omega)]; omega) (by rw [nI_toInt (by omega)]; omega) (by rw [nI_toInt (by omega)]; rw [h39]; rfl) (by decide) ?_
        exact case_mile hf hg hC hR hB
      · refine gx_tableIn 415 (pc := 39) dL_law_39 (by rw [nI_toInt (by omega)]; omega) (by rw [nI_toInt (by omega)]; omega) (by rw [nI_toInt (by omega)]; rw [h39]; rfl) (by decide) ?_
        exact case_carrier hf hg hC hR hB
      · refine gx_tableIn 483 (pc := 39) dL_law_39 (by rw [nI_toInt (by omega)]; omega) (by rw [nI_toInt (by omega)]; omega) (by rw [nI_toInt (by omega)]; rw [h39]; rfl) (by decide) ?_
        exact case_mouth hf hg hC hR hB
      · refine gx_tableIn 551 (pc := 39) dL_law_39 (by rw [nI_toInt (by omega)]; omega) (by rw [nI_toInt (by omega)]; omega) (by rw [nI_toInt (by omega)]; rw [h39]; rfl) (by decide) ?_
        exact case_danger hf hg hC hR hB
      · refine gx_tableIn 588 (pc := 39) dL_law_39 (by rw [nI_toInt (by omega)]; omega) (by rw [nI_toInt (by omega)]; omega) (by rw [nI_toInt (by omega)]; rw [h39]; rfl) (by decide) ?_
        exact case_sheet hf hg hC hR hB
      · refine gx_tableIn 649 (pc := 39) dL_law_39 (by rw [nI_toInt (by omega)]; omega) (by rw [nI_toInt (by omega)]; omega) (by rw [nI_toInt (by omega)]; rw [h39]; rfl) (by decide) ?_
        exact case_price hf hg hC hR hB
      · refine gx_tableIn 686 (pc := 39) dL_law_39 (by rw [nI_toInt (by omega)]; omega) (by rw [nI_toInt (by omega)]; omega) (by rw [nI_toInt (by omega)]; rw [h39]; rfl) (by decide) ?_
        exact case_guard hf hg hC hR hB
      · refine gx_tableIn 723 (pc := 39) dL_law_39 (by rw [nI_toInt (by omega)]; omega) (by rw [nI_toInt (by omega)]; omega) (by rw [nI_toInt (by omega)]; rw [h39]; rfl) (by decide) ?_
        exact case_plant hf hg hC hR hB
      · refine gx_tableIn 760 (pc := 39) dL_law_39 (by rw [nI_toInt (by omega)]; omega) (by rw [nI_toInt (by omega)]; omega) (by rw [nI_toInt (by omega)]; rw [h39]; rfl) (by decide) ?_
        exact case_gate hf hg hC hR hB
      · refine gx_tableIn 785 (pc := 39) dL_law_39 (by rw [nI_toInt (by omega)]; omega) (by rw [nI_toInt (by omega)]; omega) (by rw [nI_toInt (by omega)]; rw [h39]; rfl) (by decide) ?_
        exact case_weeks hf hg hC hR hB
      · refine gx_tableIn 810 (pc := 39) dL_law_39 (by rw [nI_toInt (by omega)]; omega) (by rw [nI_toInt (by omega)]; omega) (by rw [nI_toInt (by omega)]; rw [h39]; rfl) (by decide) ?_
        exact case_log hf hg hC hR hB
      · refine gx_tableIn 823 (pc := 39) dL_law_39 (by rw [nI_toInt (by omega)]; omega) (by rw [nI_toInt (by omega)]; omega) (by rw [nI_toInt (by omega)]; rw [h39]; rfl) (by decide) ?_
        exact case_undo hf hg hC hR hB
      · refine gx_tableIn 836 (pc := 39) dL_law_39 (by rw [nI_toInt (by omega)]; omega) (by rw [nI_toInt (by omega)]; omega) (by rw [nI_toInt (by omega)]; rw [h39]; rfl) (by decide) ?_
        exact case_goes hf hg hC hR hB
      · refine gx_tableIn 849 (pc := 39) dL_law_39 (by rw [nI_toInt (by omega)]; omega) (by rw [nI_toInt (by omega)]; omega) (by rw [nI_toInt (by omega)]; rw [h39]; rfl) (by decide) ?_
        exact case_ahead hf hg hC hR hB
      · refine gx_tableIn 874 (pc := 39) dL_law_39 (by rw [nI_toInt (by omega)]; omega) (by rw [nI_toInt (by omega)]; omega) (by rw [nI_toInt (by omega)]; rw [h39]; rfl) (by decide) ?_
        exact case_holds hf hg hC hR hB
      · refine gx_tableIn 887 (pc := 39) dL_law_39 (by rw [nI_toInt (by omega)]; omega) (by rw [nI_toInt (by omega)]; omega) (by rw [nI_toInt (by omega)]; rw [h39]; rfl) (by decide) ?_
        exact case_keeps hf hg hC hR hB
      · refine gx_tableIn 900 (pc := 39) dL_law_39 (by rw [nI_toInt (by omega)]; omega) (by rw [nI_toInt (by omega)]; omega) (by rw [nI_toInt (by omega)]; rw [h39]; rfl) (by decide) ?_
        exact case_tax hf hg hC hR hB
      · refine gx_tableIn 913 (pc := 39) dL_law_39 (by rw [nI_toInt (by omega)]; omega) (by rw [nI_toInt (by omega)]; omega) (by rw [nI_toInt (by omega)]; rw [h39]; rfl) (by decide) ?_
        exact case_without hf hg hC hR hB
      · refine gx_tableIn 938 (pc := 39) dL_law_39 (by rw [nI_toInt (by omega)]; omega) (by rw [nI_toInt (by omega)]; omega) (by rw [nI_toInt (by omega)]; rw [h39]; rfl) (by decide) ?_
        exact case_beats hf hg hC hR hB
      · refine gx_tableIn 963 (pc := 39) dL_law_39 (by rw [nI_toInt (by omega)]; omega) (by rw [nI_toInt (by omega)]; omega) (by rw [nI_toInt (by omega)]; rw [h39]; rfl) (by decide) ?_
        exact case_thorns hf hg hC hR hB
      · refine gx_tableIn 988 (pc := 39) dL_law_39 (by rw [nI_toInt (by omega)]; omega) (by rw [nI_toInt (by omega)]; omega) (by rw [nI_toInt (by omega)]; rw [h39]; rfl) (by decide) ?_
        exact case_walls hf hg hC hR hB
      · refine gx_tableIn 1001 (pc := 39) dL_law_39 (by rw [nI_toInt (by omega)]; omega) (by rw [nI_toInt (by omega)]; omega) (by rw [nI_toInt (by omega)]; rw [h39]; rfl) (by decide) ?_
        exact case_posts hf hg hC hR hB
      · refine gx_tableIn 1026 (pc := 39) dL_law_39 (by rw [nI_toInt (by omega)]; omega) (by rw [nI_toInt (by omega)]; omega) (by rw [nI_toInt (by omega)]; rw [h39]; rfl) (by decide) ?_
        exact case_rounds hf hg hC hR hB
      · refine gx_tableIn 1063 (pc := 39) dL_law_39 (by rw [nI_toInt (by omega)]; omega) (by rw [nI_toInt (by omega)]; omega) (by rw [nI_toInt (by omega)]; rw [h39]; rfl) (by decide) ?_
        exact case_reward hf hg hC hR hB
      · refine gx_tableIn 1088 (pc := 39) dL_law_39 (by rw [nI_toInt (by omega)]; omega) (by rw [nI_toInt (by omega)]; omega) (by rw [nI_toInt (by omega)]; rw [h39]; rfl) (by decide) ?_
        exact case_pays hf hg hC hR hB
      · refine gx_tableIn 1113 (pc := 39) dL_law_39 (by rw [nI_toInt (by omega)]; omega) (by rw [nI_toInt (by omega)]; omega) (by rw [nI_toInt (by omega)]; rw [h39]; rfl) (by decide) ?_
        exact case_caught hf hg hC hR hB
      · refine gx_tableIn 1162 (pc := 39) dL_law_39 (by rw [nI_toInt (by omega)]; omega) (by rw [nI_toInt (by omega)]; omega) (by rw [nI_toInt (by omega)]; rw [h39]; rfl) (by decide) ?_
        exact case_lasts hf hg hC hR hB
      · refine gx_tableIn 1199 (pc := 39) dL_law_39 (by rw [nI_toInt (by omega)]; omega) (by rw [nI_toInt (by omega)]; omega) (by rw [nI_toInt (by omega)]; rw [h39]; rfl) (by decide) ?_
        exact case_heard hf hg hC hR hB
      · refine gx_tableIn 1236 (pc := 39) dL_law_39 (by rw [nI_toInt (by omega)]; omega) (by rw [nI_toInt (by omega)]; omega) (by rw [nI_toInt (by omega)]; rw [h39]; rfl) (by decide) ?_
        exact case_forget hf hg hC hR hB
      · refine gx_tableIn 1249 (pc := 39) dL_law_39 (by rw [nI_toInt (by omega)]; omega) (by rw [nI_toInt (by omega)]; omega) (by rw [nI_toInt (by omega)]; rw [h39]; rfl) (by decide) ?_
        exact case_fits hf hg hC hR hB
      · refine gx_tableIn 1262 (pc := 39) dL_law_39 (by rw [nI_toInt (by omega)]; omega) (by rw [nI_toInt (by omega)]; omega) (by rw [nI_toInt (by omega)]; rw [h39]; rfl) (by decide) ?_
        exact case_ask hf hg hC hR hB
      · refine gx_tableIn 1275 (pc := 39) dL_law_39 (by rw [nI_toInt (by omega)]; omega) (by rw [nI_toInt (by omega)]; omega) (by rw [nI_toInt (by omega)]; rw [h39]; rfl) (by decide) ?_
        exact case_law hf hg hC hR hB
      · refine gx_tableIn 1288 (pc := 39) dL_law_39 (by rw [nI_toInt (by omega)]; omega) (by rw [nI_toInt (by omega)]; omega) (by rw [nI_toInt (by omega)]; rw [h39]; rfl) (by decide) ?_
        exact case_rests hf hg hC hR hB
      · refine gx_tableIn 1325 (pc := 39) dL_law_39 (by rw [nI_toInt (by omega)]; omega) (by rw [nI_toInt (by omega)]; omega) (by rw [nI_toInt (by omega)]; rw [h39]; rfl) (by decide) ?_
        exact case_years hf hg hC hR hB
      · refine gx_tableIn 1362 (pc := 39) dL_law_39 (by rw [nI_toInt (by omega)]; omega) (by rw [nI_toInt (by omega)]; omega) (by rw [nI_toInt (by omega)]; rw [h39]; rfl) (by decide) ?_
        exact case_keep hf hg hC hR hB
      · refine gx_tableIn 1387 (pc := 39) dL_law_39 (by rw [nI_toInt (by omega)]; omega) (by rw [nI_toInt (by omega)]; omega) (by rw [nI_toInt (by omega)]; rw [h39]; rfl) (by decide) ?_
        exact case_again hf hg hC hR hB
      · refine gx_tableIn 1412 (pc := 39) dL_law_39 (by rw [nI_toInt (by omega)]; omega) (by rw [nI_toInt (by omega)]; omega) (by rw [nI_toInt (by omega)]; rw [h39]; rfl) (by decide) ?_
        exact case_count hf hg hC hR hB
      · refine gx_tableIn 1437 (pc := 39) dL_law_39 (by rw [nI_toInt (by omega)]; omega) (by rw [nI_toInt (by omega)]; omega) (by rw [nI_toInt (by omega)]; rw [h39]; rfl) (by decide) ?_
        exact case_row hf hg hC hR hB
