
section BN2
variable {j n : Nat} {ρ : Nat → Nat} {bd : Nat × (Nat → Nat) × (Nat → Nat)} {sk : Nat × (Nat → Nat)} {xs : List Nat} {ld : Nat × (Nat → Nat)} {pa sh : Nat × (Nat → Nat → Nat)} {tx : Nat × (Nat → Nat)}
theorem le300 {a b c : Nat} (h : a = b) : a ≤ b + c := h ▸ Nat.le_add_right _ _
theorem Bnd.line (h : Bnd j ld.2 pa sh) (h12 : (match linF tx.1 tx.2 with | none => (tx.1, linR tx.2 ld.2 tx.1) | some _ => ld).1 ≤ 12) : Bnd (j + 1) (match linF tx.1 tx.2 with | none => (tx.1, linR tx.2 ld.2 tx.1) | some _ => ld).2 (match linF tx.1 tx.2 with | none => (0, pa.2) | some _ => pa) (match linF tx.1 tx.2 with | none => (0, sh.2) | some _ => sh) := by
  revert h12
  cases linF tx.1 tx.2 with
  | none =>
    intro h12
    have hl := linR_b (f := tx.2) (ρ := ld.2) (i := tx.1) h12
    exact ⟨⟨Nat.le_trans (Nat.le_of_eq hl.1) (Nat.zero_le _), Nat.le_trans (Nat.le_of_eq hl.2) (Nat.zero_le _)⟩, fun i hi => absurd hi (Nat.not_lt_zero i), fun i hi hb => by simp at hb⟩
  | some q => intro _; exact h.up
theorem Bnd.weeks {n : Int32} (h : Bnd j ld.2 pa sh) (hV : VOK (vOf bd sk xs ld.1)) (hok : RowOK ld.1 ld.2) (hro : Roomy ld.2) : Bnd (j + 1) (if in0 n 60 then (ld.1, (sWeeks bd sk xs ld n.toInt.toNat).2.2.2) else ld).2 (if in0 n 60 then (min (pa.1 + 1) 15, pushH pa.2 pa.1 ld.2) else pa) sh := by
  by_cases hq : in0 n 60
  · rw [if_pos hq, if_pos hq]
    have q2 := hq.2
    obtain ⟨r1, r2⟩ := hro
    obtain ⟨-, a2, a3, a4, -, -, -⟩ := wks_ok hV hok n.toInt.toNat (by omega) (by omega)
    exact h.push (by show (wks (vOf bd sk xs ld.1) ld.2 n.toInt.toNat).2.2.2 27 ≤ _; omega) (by show (wks (vOf bd sk xs ld.1) ld.2 n.toInt.toNat).2.2.2 28 ≤ _; omega)
  · rw [if_neg hq, if_neg hq]
    exact h.up
theorem Bnd.log (h : Bnd j ld.2 pa sh) (hV : VOK (vOf bd sk xs ld.1)) (hok : RowOK ld.1 ld.2) (hro : Roomy ld.2) : Bnd (j + 1) (match logF tx.1 tx.2 with | none => (ld.1, (logE (vOf bd sk xs ld.1) tx.2 tx.1 ld.2).2.2) | some _ => ld).2 (match logF tx.1 tx.2 with | none => (if 0 < (logE (vOf bd sk xs ld.1) tx.2 tx.1 ld.2).1 then (min (pa.1 + 1) 15, pushH pa.2 pa.1 ld.2) else pa) | some _ => pa) sh := by
  cases hl : logF tx.1 tx.2 with
  | none =>
    have hb := logE_b hV hok hro hl
    dsimp only
    split
    · exact h.push hb.1 hb.2
    · exact h.row hb.1 hb.2
  | some q => exact h.up
theorem Bnd.undo (h : Bnd j ld.2 pa sh) : Bnd (j + 1) (if 0 < pa.1 then (ld.1, pa.2 (pa.1 - 1)) else ld).2 (if 0 < pa.1 then (pa.1 - 1, pa.2) else pa) sh := by
  by_cases hq : 0 < pa.1
  · rw [if_pos hq, if_pos hq]
    exact ⟨(h.2.1 _ (by omega)).up, fun i hi => (h.2.1 i (by have hi : i < pa.1 - 1 := hi; omega)).up, h.up.2.2⟩
  · rw [if_neg hq, if_neg hq]
    exact h.up
theorem Bnd.keep {i : Int32} (h : Bnd j ld.2 pa sh) : Bnd (j + 1) ld.2 pa (sKeep sh i ld.2) := by
  unfold sKeep
  split
  · refine ⟨h.1.up, h.up.2.1, fun k hk hb => ?_⟩
    dsimp only at hb ⊢
    split
    · exact h.1.up
    · rename_i hne
      rw [Nat.testBit_or, Nat.testBit_two_pow, Bool.or_eq_true] at hb
      rcases hb with hb | hb
      · exact (h.2.2 k hk hb).up
      · exact absurd (of_decide_eq_true hb).symm hne
  · exact h.up
theorem Bnd.again {i : Int32} (h : Bnd j ld.2 pa sh) : Bnd (j + 1) (if kept sh i then (ld.1, sh.2 i.toInt.toNat) else ld).2 (if kept sh i then (0, pa.2) else pa) sh := by
  by_cases hq : kept sh i
  · rw [if_pos hq, if_pos hq]
    have q1 : i.toInt < 3 := hq.2.1
    exact ⟨(h.2.2 _ (by omega) hq.2.2).up, fun i hi => absurd hi (Nat.not_lt_zero i), h.up.2.2⟩
  · rw [if_neg hq, if_neg hq]
    exact h.up
end BN2

theorem case_sign {E : zE} {b L j cz sz : Nat} {scr : Nat → Int32} {σ : zT} {tx : Nat × (Nat → Nat)} {bd : Nat × (Nat → Nat) × (Nat → Nat)} {sk : Nat × (Nat → Nat)} {tw : Nat × (Nat → Nat) × (Nat → Nat)} {xs : List Nat} {ld : Nat × (Nat → Nat)} {pa sh : Nat × (Nat → Nat → Nat)} {ru : Nat × (Nat → Nat) × (Nat → Nat)} {to : Nat × (Nat → Int64)} (hf : Fnl E b L scr j cz sz) (hg : Beg L j cz sz) (hC : ClsIs σ tx bd sk tw xs ld pa sh ru to) (hR : RefIs σ tx bd sk tw xs ld pa sh ru to) (hB : Bnd j ld.2 pa sh) : GL E b L scr cz sz σ 232 (lvL E b j) [] := by
  obtain ⟨g1, g2, g3, g4⟩ := hg
  have hro : Roomy ld.2 := hB.ro (by omega)
  have hok : RowOK ld.1 ld.2 := hC.2.2.2.2.2.1.1
  have h12 : ld.1 ≤ 12 := hok.2.1
  have hV : VOK (vOf bd sk xs ld.1) := hR.env.vok hok
  refine gx_aload_n (i := 1) (pc := 232) dL_law_232 rfl rfl ?_
  refine gx_aload_n (i := 0) (pc := 233) dL_law_233 rfl rfl ?_
  refine gx_iload (pc := 234) dL_law_234 rfl ?_
  refine gx_iconst (nI 1) (pc := 236) dL_law_236 (by decide) ?_
  first | with_reducible refine gx_iaddN (pc := 237) dL_law_237 ?_ | refine gx_iadd (pc := 237) dL_law_237 ?_
  refine gl_sld (5 * j + 1) (pc := 238) dL_law_238 rfl (by omega) (by omega) ?_
  refine gx_callV ml_L_29 mt_X11_sign (pc := 239) dL_law_239 (c_X11_sign hC) rfl rfl rfl (by decide) ⟨(by show cz ≤ 601024; omega), (by show sz ≤ 7293034; omega)⟩ (by decide) rfl rfl (Nat.le_of_ble_eq_true rfl) (fun r σ' hp => ?_)
  obtain ⟨rfl, hC1, hF1⟩ := hp
  dsimp only [zRet]
  have hR1 := hR.sm hF1.sm
  refine gx_aload_n (i := 2) (pc := 242) dL_law_242 rfl rfl ?_
  refine gx_aload_n (i := 0) (pc := 243) dL_law_243 rfl rfl ?_
  refine gx_iload (pc := 244) dL_law_244 rfl ?_
  refine gx_iconst (nI 1) (pc := 246) dL_law_246 (by decide) ?_
  first | with_reducible refine gx_iaddN (pc := 247) dL_law_247 ?_ | refine gx_iadd (pc := 247) dL_law_247 ?_
  refine gl_sld (5 * j + 1) (pc := 248) dL_law_248 rfl (by omega) (by omega) ?_
  refine gx_callV ml_L_33 mt_X12_sign (pc := 249) dL_law_249 (c_X12_sign hR1) rfl rfl rfl (by decide) ⟨(by show cz ≤ 601024; omega), (by show sz ≤ 7293034; omega)⟩ (by decide) rfl rfl (Nat.le_of_ble_eq_true rfl) (fun r σ' hp => ?_)
  obtain ⟨rfl, hR2, hF2⟩ := hp
  dsimp only [zRet]
  have hC2 := hC1.hi hF2 (by simp)
  refine gx_icmp_eq 1492 (pc := 252) dL_law_252 (by decide) (fun h252 => ?_) (fun h252 => ?_)
  · exact hf _ _ _ _ _ _ _ _ _ _ _ _ _ hC2 hR2 hB.up (by omega) (by omega)
  · exact absurd rfl h252

theorem case_end {E : zE} {b L j cz sz : Nat} {scr : Nat → Int32} {σ : zT} {tx : Nat × (Nat → Nat)} {bd : Nat × (Nat → Nat) × (Nat → Nat)} {sk : Nat × (Nat → Nat)} {tw : Nat × (Nat → Nat) × (Nat → Nat)} {xs : List Nat} {ld : Nat × (Nat → Nat)} {pa sh : Nat × (Nat → Nat → Nat)} {ru : Nat × (Nat → Nat) × (Nat → Nat)} {to : Nat × (Nat → Int64)} (hf : Fnl E b L scr j cz sz) (hg : Beg L j cz sz) (hC : ClsIs σ tx bd sk tw xs ld pa sh ru to) (hR : RefIs σ tx bd sk tw xs ld pa sh ru to) (hB : Bnd j ld.2 pa sh) : GL E b L scr cz sz σ 257 (lvL E b j) [] := by
  obtain ⟨g1, g2, g3, g4⟩ := hg
  have hro : Roomy ld.2 := hB.ro (by omega)
  have hok : RowOK ld.1 ld.2 := hC.2.2.2.2.2.1.1
  have h12 : ld.1 ≤ 12 := hok.2.1
  have hV : VOK (vOf bd sk xs ld.1) := hR.env.vok hok
  refine gx_aload_n (i := 1) (pc := 257) dL_law_257 rfl rfl ?_
  refine gx_aload_n (i := 0) (pc := 258) dL_law_258 rfl rfl ?_
  refine gx_iload (pc := 259) dL_law_259 rfl ?_
  refine gx_iconst (nI 1) (pc := 261) dL_law_261 (by decide) ?_
  first | with_reducible refine gx_iaddN (pc := 262) dL_law_262 ?_ | refine gx_iadd (pc := 262) dL_law_262 ?_
  refine gl_sld (5 * j + 1) (pc := 263) dL_law_263 rfl (by omega) (by omega) ?_
  refine gx_callV ml_L_34 mt_X11_end (pc := 264) dL_law_264 (c_X11_end hC) rfl rfl rfl (by decide) ⟨(by show cz ≤ 601024; omega), (by show sz ≤ 7293034; omega)⟩ (by decide) rfl rfl (Nat.le_of_ble_eq_true rfl) (fun r σ' hp => ?_)
  obtain ⟨rfl, hC1, hF1⟩ := hp
  dsimp only [zRet]
  have hR1 := hR.sm hF1.sm
  refine gx_aload_n (i := 2) (pc := 267) dL_law_267 rfl rfl ?_
  refine gx_aload_n (i := 0) (pc := 268) dL_law_268 rfl rfl ?_
  refine gx_iload (pc := 269) dL_law_269 rfl ?_
  refine gx_iconst (nI 1) (pc := 271) dL_law_271 (by decide) ?_
  first | with_reducible refine gx_iaddN (pc := 272) dL_law_272 ?_ | refine gx_iadd (pc := 272) dL_law_272 ?_
  refine gl_sld (5 * j + 1) (pc := 273) dL_law_273 rfl (by omega) (by omega) ?_
  refine gx_callV ml_L_38 mt_X12_end (pc := 274) dL_law_274 (c_X12_end hR1) rfl rfl rfl (by decide) ⟨(by show cz ≤ 601024; omega), (by show sz ≤ 7293034; omega)⟩ (by decide) rfl rfl (Nat.le_of_ble_eq_true rfl) (fun r σ' hp => ?_)
  obtain ⟨rfl, hR2, hF2⟩ := hp
  dsimp only [zRet]
  have hC2 := hC1.hi hF2 (by simp)
  refine gx_icmp_eq 1492 (pc := 277) dL_law_277 (by decide) (fun h277 => ?_) (fun h277 => ?_)
  · exact hf _ _ _ _ _ _ _ _ _ _ _ _ _ hC2 hR2 hB.up (by omega) (by omega)
  · exact absurd rfl h277

theorem case_line {E : zE} {b L j cz sz : Nat} {scr : Nat → Int32} {σ : zT} {tx : Nat × (Nat → Nat)} {bd : Nat × (Nat → Nat) × (Nat → Nat)} {sk : Nat × (Nat → Nat)} {tw : Nat × (Nat → Nat) × (Nat → Nat)} {xs : List Nat} {ld : Nat × (Nat → Nat)} {pa sh : Nat × (Nat → Nat → Nat)} {ru : Nat × (Nat → Nat) × (Nat → Nat)} {to : Nat × (Nat → Int64)} (hf : Fnl E b L scr j cz sz) (hg : Beg L j cz sz) (hC : ClsIs σ tx bd sk tw xs ld pa sh ru to) (hR : RefIs σ tx bd sk tw xs ld pa sh ru to) (hB : Bnd j ld.2 pa sh) : GL E b L scr cz sz σ 282 (lvL E b j) [] := by
  obtain ⟨g1, g2, g3, g4⟩ := hg
  have hro : Roomy ld.2 := hB.ro (by omega)
  have hok : RowOK ld.1 ld.2 := hC.2.2.2.2.2.1.1
  have h12 : ld.1 ≤ 12 := hok.2.1
  have hV : VOK (vOf bd sk xs ld.1) := hR.env.vok hok
  refine gx_aload_n (i := 1) (pc := 282) dL_law_282 rfl rfl ?_
  refine gx_callV ml_L_39 mt_X11_line (pc := 283) dL_law_283 (c_X11_line hC) rfl rfl rfl (by decide) ⟨(by show cz ≤ 601024; omega), (by show sz ≤ 7293034; omega)⟩ (by decide) rfl rfl (Nat.le_of_ble_eq_true rfl) (fun r σ' hp => ?_)
  obtain ⟨rfl, hC1, hF1⟩ := hp
  dsimp only [zRet]
  have hR1 := hR.sm hF1.sm
  refine gx_aload_n (i := 2) (pc := 286) dL_law_286 rfl rfl ?_
  refine gx_callV ml_L_43 mt_X12_line (pc := 287) dL_law_287 (c_X12_line hR1) rfl rfl rfl (by decide) ⟨(by show cz ≤ 601024; omega), (by show sz ≤ 7293034; omega)⟩ (by decide) rfl rfl (Nat.le_of_ble_eq_true rfl) (fun r σ' hp => ?_)
  obtain ⟨rfl, hR2, hF2⟩ := hp
  dsimp only [zRet]
  have hC2 := hC1.hi hF2 (by simp)
  refine gx_icmp_eq 1492 (pc := 290) dL_law_290 (by decide) (fun h290 => ?_) (fun h290 => ?_)
  · exact hf _ _ _ _ _ _ _ _ _ _ _ _ _ hC2 hR2 (hB.line hC2.2.2.2.2.2.1.1.2.1) (by omega) (by omega)
  · exact absurd rfl h290

theorem case_carriers {E : zE} {b L j cz sz : Nat} {scr : Nat → Int32} {σ : zT} {tx : Nat × (Nat → Nat)} {bd : Nat × (Nat → Nat) × (Nat → Nat)} {sk : Nat × (Nat → Nat)} {tw : Nat × (Nat → Nat) × (Nat → Nat)} {xs : List Nat} {ld : Nat × (Nat → Nat)} {pa sh : Nat × (Nat → Nat → Nat)} {ru : Nat × (Nat → Nat) × (Nat → Nat)} {to : Nat × (Nat → Int64)} (hf : Fnl E b L scr j cz sz) (hg : Beg L j cz sz) (hC : ClsIs σ tx bd sk tw xs ld pa sh ru to) (hR : RefIs σ tx bd sk tw xs ld pa sh ru to) (hB : Bnd j ld.2 pa sh) : GL E b L scr cz sz σ 295 (lvL E b j) [] := by
  obtain ⟨g1, g2, g3, g4⟩ := hg
  have hro : Roomy ld.2 := hB.ro (by omega)
  have hok : RowOK ld.1 ld.2 := hC.2.2.2.2.2.1.1
  have h12 : ld.1 ≤ 12 := hok.2.1
  have hV : VOK (vOf bd sk xs ld.1) := hR.env.vok hok
  refine gx_aload_n (i := 1) (pc := 295) dL_law_295 rfl rfl ?_
  refine gx_callV ml_L_44 mt_X11_carriers (pc := 296) dL_law_296 (c_X11_carriers hC) rfl rfl rfl (by decide) ⟨(by show cz ≤ 601024; omega), (by show sz ≤ 7293034; omega)⟩ (by decide) rfl rfl (Nat.le_of_ble_eq_true rfl) (fun r σ' hp => ?_)
  obtain ⟨rfl, hC1, hF1⟩ := hp
  dsimp only [zRet]
  have hR1 := hR.sm hF1.sm
  refine gx_aload_n (i := 2) (pc := 299) dL_law_299 rfl rfl ?_
  refine gx_callV ml_L_47 mt_X12_carriers (pc := 300) dL_law_300 (c_X12_carriers hR1) rfl rfl rfl (by decide) ⟨(by show cz ≤ 601024; omega), (by show sz ≤ 7293034; omega)⟩ (by decide) rfl rfl (Nat.le_of_ble_eq_true rfl) (fun r σ' hp => ?_)
  obtain ⟨rfl, hR2, hF2⟩ := hp
  dsimp only [zRet]
  have hC2 := hC1.hi hF2 (by simp)
  refine gx_icmp_eq 1492 (pc := 303) dL_law_303 (by decide) (fun h303 => ?_) (fun h303 => ?_)
  · exact hf _ _ _ _ _ _ _ _ _ _ _ _ _ hC2 hR2 hB.up (by omega) (by omega)
  · exact absurd rfl h303

theorem case_weather {E : zE} {b L j cz sz : Nat} {scr : Nat → Int32} {σ : zT} {tx : Nat × (Nat → Nat)} {bd : Nat × (Nat → Nat) × (Nat → Nat)} {sk : Nat × (Nat → Nat)} {tw : Nat × (Nat → Nat) × (Nat → Nat)} {xs : List Nat} {ld : Nat × (Nat → Nat)} {pa sh : Nat × (Nat → Nat → Nat)} {ru : Nat × (Nat → Nat) × (Nat → Nat)} {to : Nat × (Nat → Int64)} (hf : Fnl E b L scr j cz sz) (hg : Beg L j cz sz) (hC : ClsIs σ tx bd sk tw xs ld pa sh ru to) (hR : RefIs σ tx bd sk tw xs ld pa sh ru to) (hB : Bnd j ld.2 pa sh) : GL E b L scr cz sz σ 308 (lvL E b j) [] := by
  obtain ⟨g1, g2, g3, g4⟩ := hg
  have hro : Roomy ld.2 := hB.ro (by omega)
  have hok : RowOK ld.1 ld.2 := hC.2.2.2.2.2.1.1
  have h12 : ld.1 ≤ 12 := hok.2.1
  have hV : VOK (vOf bd sk xs ld.1) := hR.env.vok hok
  refine gx_aload_n (i := 1) (pc := 308) dL_law_308 rfl rfl ?_
  refine gx_callV ml_L_48 mt_X11_weather (pc := 309) dL_law_309 (c_X11_weather hC) rfl rfl rfl (by decide) ⟨(by show cz ≤ 601024; omega), (by show sz ≤ 7293034; omega)⟩ (by decide) rfl rfl (Nat.le_of_ble_eq_true rfl) (fun r σ' hp => ?_)
  obtain ⟨rfl, hC1, hF1⟩ := hp
  dsimp only [zRet]
  have hR1 := hR.sm hF1.sm
  refine gx_aload_n (i := 2) (pc := 312) dL_law_312 rfl rfl ?_
  refine gx_callV ml_L_51 mt_X12_weather (pc := 313) dL_law_313 (c_X12_weather hR1) rfl rfl rfl (by decide) ⟨(by show cz ≤ 601024; omega), (by show sz ≤ 7293034; omega)⟩ (by decide) rfl rfl (Nat.le_of_ble_eq_true rfl) (fun r σ' hp => ?_)
  obtain ⟨rfl, hR2, hF2⟩ := hp
  dsimp only [zRet]
  have hC2 := hC1.hi hF2 (by simp)
  refine gx_icmp_eq 1492 (pc := 316) dL_law_316 (by decide) (fun h316 => ?_) (fun h316 => ?_)
  · exact hf _ _ _ _ _ _ _ _ _ _ _ _ _ hC2 hR2 hB.up (by omega) (by omega)
  · exact absurd rfl h316

theorem case_mouths {E : zE} {b L j cz sz : Nat} {scr : Nat → Int32} {σ : zT} {tx : Nat × (Nat → Nat)} {bd : Nat × (Nat → Nat) × (Nat → Nat)} {sk : Nat × (Nat → Nat)} {tw : Nat × (Nat → Nat) × (Nat → Nat)} {xs : List Nat} {ld : Nat × (Nat → Nat)} {pa sh : Nat × (Nat → Nat → Nat)} {ru : Nat × (Nat → Nat) × (Nat → Nat)} {to : Nat × (Nat → Int64)} (hf : Fnl E b L scr j cz sz) (hg : Beg L j cz sz) (hC : ClsIs σ tx bd sk tw xs ld pa sh ru to) (hR : RefIs σ tx bd sk tw xs ld pa sh ru to) (hB : Bnd j ld.2 pa sh) : GL E b L scr cz sz σ 321 (lvL E b j) [] := by
  obtain ⟨g1, g2, g3, g4⟩ := hg
  have hro : Roomy ld.2 := hB.ro (by omega)
  have hok : RowOK ld.1 ld.2 := hC.2.2.2.2.2.1.1
  have h12 : ld.1 ≤ 12 := hok.2.1
  have hV : VOK (vOf bd sk xs ld.1) := hR.env.vok hok
  refine gx_aload_n (i := 1) (pc := 321) dL_law_321 rfl rfl ?_
  refine gx_callV ml_L_52 mt_X11_mouths (pc := 322) dL_law_322 (c_X11_mouths hC) rfl rfl rfl (by decide) ⟨(by show cz ≤ 601024; omega), (by show sz ≤ 7293034; omega)⟩ (by decide) rfl rfl (Nat.le_of_ble_eq_true rfl) (fun r σ' hp => ?_)
  obtain ⟨rfl, hC1, hF1⟩ := hp
  dsimp only [zRet]
  have hR1 := hR.sm hF1.sm
  refine gx_aload_n (i := 2) (pc := 325) dL_law_325 rfl rfl ?_
  refine gx_callV ml_L_55 mt_X12_mouths (pc := 326) dL_law_326 (c_X12_mouths hR1) rfl rfl rfl (by decide) ⟨(by show cz ≤ 601024; omega), (by show sz ≤ 7293034; omega)⟩ (by decide) rfl rfl (Nat.le_of_ble_eq_true rfl) (fun r σ' hp => ?_)
  obtain ⟨rfl, hR2, hF2⟩ := hp
  dsimp only [zRet]
  have hC2 := hC1.hi hF2 (by simp)
  refine gx_icmp_eq 1492 (pc := 329) dL_law_329 (by decide) (fun h329 => ?_) (fun h329 => ?_)
  · exact hf _ _ _ _ _ _ _ _ _ _ _ _ _ hC2 hR2 hB.up (by omega) (by omega)
  · exact absurd rfl h329

theorem case_rule {E : zE} {b L j cz sz : Nat} {scr : Nat → Int32} {σ : zT} {tx : Nat × (Nat → Nat)} {bd : Nat × (Nat → Nat) × (Nat → Nat)} {sk : Nat × (Nat → Nat)} {tw : Nat × (Nat → Nat) × (Nat → Nat)} {xs : List Nat} {ld : Nat × (Nat → Nat)} {pa sh : Nat × (Nat → Nat → Nat)} {ru : Nat × (Nat → Nat) × (Nat → Nat)} {to : Nat × (Nat → Int64)} (hf : Fnl E b L scr j cz sz) (hg : Beg L j cz sz) (hC : ClsIs σ tx bd sk tw xs ld pa sh ru to) (hR : RefIs σ tx bd sk tw xs ld pa sh ru to) (hB : Bnd j ld.2 pa sh) : GL E b L scr cz sz σ 334 (lvL E b j) [] := by
  obtain ⟨g1, g2, g3, g4⟩ := hg
  have hro : Roomy ld.2 := hB.ro (by omega)
  have hok : RowOK ld.1 ld.2 := hC.2.2.2.2.2.1.1
  have h12 : ld.1 ≤ 12 := hok.2.1
  have hV : VOK (vOf bd sk xs ld.1) := hR.env.vok hok
  refine gx_aload_n (i := 1) (pc := 334) dL_law_334 rfl rfl ?_
  refine gx_callV ml_L_56 mt_X11_rule (pc := 335) dL_law_335 (c_X11_rule hC) rfl rfl rfl (by decide) ⟨(by show cz ≤ 601024; omega), (by show sz ≤ 7293034; omega)⟩ (by decide) rfl rfl (Nat.le_of_ble_eq_true rfl) (fun r σ' hp => ?_)
  obtain ⟨rfl, hC1, hF1⟩ := hp
  dsimp only [zRet]
  have hR1 := hR.sm hF1.sm
  refine gx_aload_n (i := 2) (pc := 338) dL_law_338 rfl rfl ?_
  refine gx_callV ml_L_59 mt_X12_rule (pc := 339) dL_law_339 (c_X12_rule hR1) rfl rfl rfl (by decide) ⟨(by show cz ≤ 601024; omega), (by show sz ≤ 7293034; omega)⟩ (by decide) rfl rfl (Nat.le_of_ble_eq_true rfl) (fun r σ' hp => ?_)
  obtain ⟨rfl, hR2, hF2⟩ := hp
  dsimp only [zRet]
  have hC2 := hC1.hi hF2 (by simp)
  refine gx_icmp_eq 1492 (pc := 342) dL_law_342 (by decide) (fun h342 => ?_) (fun h342 => ?_)
  · exact hf _ _ _ _ _ _ _ _ _ _ _ _ _ hC2 hR2 hB.up (by omega) (by omega)
  · exact absurd rfl h342

theorem case_danger {E : zE} {b L j cz sz : Nat} {scr : Nat → Int32} {σ : zT} {tx : Nat × (Nat → Nat)} {bd : Nat × (Nat → Nat) × (Nat → Nat)} {sk : Nat × (Nat → Nat)} {tw : Nat × (Nat → Nat) × (Nat → Nat)} {xs : List Nat} {ld : Nat × (Nat → Nat)} {pa sh : Nat × (Nat → Nat → Nat)} {ru : Nat × (Nat → Nat) × (Nat → Nat)} {to : Nat × (Nat → Int64)} (hf : Fnl E b L scr j cz sz) (hg : Beg L j cz sz) (hC : ClsIs σ tx bd sk tw xs ld pa sh ru to) (hR : RefIs σ tx bd sk tw xs ld pa sh ru to) (hB : Bnd j ld.2 pa sh) : GL E b L scr cz sz σ 551 (lvL E b j) [] := by
  obtain ⟨g1, g2, g3, g4⟩ := hg
  have hro : Roomy ld.2 := hB.ro (by omega)
  have hok : RowOK ld.1 ld.2 := hC.2.2.2.2.2.1.1
  have h12 : ld.1 ≤ 12 := hok.2.1
  have hV : VOK (vOf bd sk xs ld.1) := hR.env.vok hok
  refine gx_aload_n (i := 1) (pc := 551) dL_law_551 rfl rfl ?_
  refine gx_aload_n (i := 0) (pc := 552) dL_law_552 rfl rfl ?_
  refine gx_iload (pc := 553) dL_law_553 rfl ?_
  refine gx_iconst (nI 1) (pc := 555) dL_law_555 (by decide) ?_
  first | with_reducible refine gx_iaddN (pc := 556) dL_law_556 ?_ | refine gx_iadd (pc := 556) dL_law_556 ?_
  refine gl_sld (5 * j + 1) (pc := 557) dL_law_557 rfl (by omega) (by omega) ?_
  refine gx_aload_n (i := 0) (pc := 558) dL_law_558 rfl rfl ?_
  refine gx_iload (pc := 559) dL_law_559 rfl ?_
  refine gx_iconst (nI 2) (pc := 561) dL_law_561 (by decide) ?_
  first | with_reducible refine gx_iaddN (pc := 562) dL_law_562 ?_ | refine gx_iadd (pc := 562) dL_law_562 ?_
  refine gl_sld (5 * j + 2) (pc := 563) dL_law_563 rfl (by omega) (by omega) ?_
  refine gx_callV ml_L_75 mt_X11_danger (pc := 564) dL_law_564 (c_X11_danger hC) rfl rfl rfl (by decide) ⟨(by show cz ≤ 601024; omega), (by show sz ≤ 7293034; omega)⟩ (by decide) rfl rfl (Nat.le_of_ble_eq_true rfl) (fun r σ' hp => ?_)
  obtain ⟨rfl, hC1, hF1⟩ := hp
  dsimp only [zRet]
  have hR1 := hR.sm hF1.sm
  refine gx_aload_n (i := 2) (pc := 567) dL_law_567 rfl rfl ?_
  refine gx_aload_n (i := 0) (pc := 568) dL_law_568 rfl rfl ?_
  refine gx_iload (pc := 569) dL_law_569 rfl ?_
  refine gx_iconst (nI 1) (pc := 571) dL_law_571 (by decide) ?_
  first | with_reducible refine gx_iaddN (pc := 572) dL_law_572 ?_ | refine gx_iadd (pc := 572) dL_law_572 ?_
  refine gl_sld (5 * j + 1) (pc := 573) dL_law_573 rfl (by omega) (by omega) ?_
  refine gx_aload_n (i := 0) (pc := 574) dL_law_574 rfl rfl ?_
  refine gx_iload (pc := 575) dL_law_575 rfl ?_
  refine gx_iconst (nI 2) (pc := 577) dL_law_577 (by decide) ?_
  first | with_reducible refine gx_iaddN (pc := 578) dL_law_578 ?_ | refine gx_iadd (pc := 578) dL_law_578 ?_
  refine gl_sld (5 * j + 2) (pc := 579) dL_law_579 rfl (by omega) (by omega) ?_
  refine gx_callV ml_L_78 mt_X12_danger (pc := 580) dL_law_580 (c_X12_danger hR1) rfl rfl rfl (by decide) ⟨(by show cz ≤ 601024; omega), (by show sz ≤ 7293034; omega)⟩ (by decide) rfl rfl (Nat.le_of_ble_eq_true rfl) (fun r σ' hp => ?_)
  obtain ⟨rfl, hR2, hF2⟩ := hp
  dsimp only [zRet]
  have hC2 := hC1.hi hF2 (by simp)
  refine gx_icmp_eq 1492 (pc := 583) dL_law_583 (by decide) (fun h583 => ?_) (fun h583 => ?_)
  · exact hf _ _ _ _ _ _ _ _ _ _ _ _ _ hC2 hR2 hB.up (by omega) (by omega)
  · exact absurd rfl h583

theorem case_sheet {E : zE} {b L j cz sz : Nat} {scr : Nat → Int32} {σ : zT} {tx : Nat × (Nat → Nat)} {bd : Nat × (Nat → Nat) × (Nat → Nat)} {sk : Nat × (Nat → Nat)} {tw : Nat × (Nat → Nat) × (Nat → Nat)} {xs : List Nat} {ld : Nat × (Nat → Nat)} {pa sh : Nat × (Nat → Nat → Nat)} {ru : Nat × (Nat → Nat) × (Nat → Nat)} {to : Nat × (Nat → Int64)} (hf : Fnl E b L scr j cz sz) (hg : Beg L j cz sz) (hC : ClsIs σ tx bd sk tw xs ld pa sh ru to) (hR : RefIs σ tx bd sk tw xs ld pa sh ru to) (hB : Bnd j ld.2 pa sh) : GL E b L scr cz sz σ 588 (lvL E b j) [] := by
  obtain ⟨g1, g2, g3, g4⟩ := hg
  have hro : Roomy ld.2 := hB.ro (by omega)
  have hok : RowOK ld.1 ld.2 := hC.2.2.2.2.2.1.1
  have h12 : ld.1 ≤ 12 := hok.2.1
  have hV : VOK (vOf bd sk xs ld.1) := hR.env.vok hok
  refine gx_aload_n (i := 1) (pc := 588) dL_law_588 rfl rfl ?_
  refine gx_aload_n (i := 0) (pc := 589) dL_law_589 rfl rfl ?_
  refine gx_iload (pc := 590) dL_law_590 rfl ?_
  refine gx_iconst (nI 1) (pc := 592) dL_law_592 (by decide) ?_
  first | with_reducible refine gx_iaddN (pc := 593) dL_law_593 ?_ | refine gx_iadd (pc := 593) dL_law_593 ?_
  refine gl_sld (5 * j + 1) (pc := 594) dL_law_594 rfl (by omega) (by omega) ?_
  refine gx_aload_n (i := 0) (pc := 595) dL_law_595 rfl rfl ?_
  refine gx_iload (pc := 596) dL_law_596 rfl ?_
  refine gx_iconst (nI 2) (pc := 598) dL_law_598 (by decide) ?_
  first | with_reducible refine gx_iaddN (pc := 599) dL_law_599 ?_ | refine gx_iadd (pc := 599) dL_law_599 ?_
  refine gl_sld (5 * j + 2) (pc := 600) dL_law_600 rfl (by omega) (by omega) ?_
  refine gx_aload_n (i := 0) (pc := 601) dL_law_601 rfl rfl ?_
  refine gx_iload (pc := 602) dL_law_602 rfl ?_
  refine gx_iconst (nI 3) (pc := 604) dL_law_604 (by decide) ?_
  first | with_reducible refine gx_iaddN (pc := 605) dL_law_605 ?_ | refine gx_iadd (pc := 605) dL_law_605 ?_
  refine gl_sld (5 * j + 3) (pc := 606) dL_law_606 rfl (by omega) (by omega) ?_
  refine gx_aload_n (i := 0) (pc := 607) dL_law_607 rfl rfl ?_
  refine gx_iload (pc := 608) dL_law_608 rfl ?_
  refine gx_iconst (nI 4) (pc := 610) dL_law_610 (by decide) ?_
  first | with_reducible refine gx_iaddN (pc := 611) dL_law_611 ?_ | refine gx_iadd (pc := 611) dL_law_611 ?_
  refine gl_sld (5 * j + 4) (pc := 612) dL_law_612 rfl (by omega) (by omega) ?_
  refine gx_callV ml_L_79 mt_X11_sheet (pc := 613) dL_law_613 (c_X11_sheet hC) rfl rfl rfl (by decide) ⟨(by show cz ≤ 601024; omega), (by show sz ≤ 7293034; omega)⟩ (by decide) rfl rfl (Nat.le_of_ble_eq_true rfl) (fun r σ' hp => ?_)
  obtain ⟨rfl, hC1, hF1⟩ := hp
  dsimp only [zRet]
  have hR1 := hR.sm hF1.sm
  refine gx_aload_n (i := 2) (pc := 616) dL_law_616 rfl rfl ?_
  refine gx_aload_n (i := 0) (pc := 617) dL_law_617 rfl rfl ?_
  refine gx_iload (pc := 618) dL_law_618 rfl ?_
  refine gx_iconst (nI 1) (pc := 620) dL_law_620 (by decide) ?_
  first | with_reducible refine gx_iaddN (pc := 621) dL_law_621 ?_ | refine gx_iadd (pc := 621) dL_law_621 ?_
  refine gl_sld (5 * j + 1) (pc := 622) dL_law_622 rfl (by omega) (by omega) ?_
  refine gx_aload_n (i := 0) (pc := 623) dL_law_623 rfl rfl ?_
  refine gx_iload (pc := 624) dL_law_624 rfl ?_
  refine gx_iconst (nI 2) (pc := 626) dL_law_626 (by decide) ?_
  first | with_reducible refine gx_iaddN (pc := 627) dL_law_627 ?_ | refine gx_iadd (pc := 627) dL_law_627 ?_
  refine gl_sld (5 * j + 2) (pc := 628) dL_law_628 rfl (by omega) (by omega) ?_
  refine gx_aload_n (i := 0) (pc := 629) dL_law_629 rfl rfl ?_
  refine gx_iload (pc := 630) dL_law_630 rfl ?_
  refine gx_iconst (nI 3) (pc := 632) dL_law_632 (by decide) ?_
  first | with_reducible refine gx_iaddN (pc := 633) dL_law_633 ?_ | refine gx_iadd (pc := 633) dL_law_633 ?_
  refine gl_sld (5 * j + 3) (pc := 634) dL_law_634 rfl (by omega) (by omega) ?_
  refine gx_aload_n (i := 0) (pc := 635) dL_law_635 rfl rfl ?_
  refine gx_iload (pc := 636) dL_law_636 rfl ?_
  refine gx_iconst (nI 4) (pc := 638) dL_law_638 (by decide) ?_
  first | with_reducible refine gx_iaddN (pc := 639) dL_law_639 ?_ | refine gx_iadd (pc := 639) dL_law_639 ?_
  refine gl_sld (5 * j + 4) (pc := 640) dL_law_640 rfl (by omega) (by omega) ?_
  refine gx_callV ml_L_83 mt_X12_sheet (pc := 641) dL_law_641 (c_X12_sheet hR1) rfl rfl rfl (by decide) ⟨(by show cz ≤ 601024; omega), (by show sz ≤ 7293034; omega)⟩ (by decide) rfl rfl (Nat.le_of_ble_eq_true rfl) (fun r σ' hp => ?_)
  obtain ⟨rfl, hR2, hF2⟩ := hp
  dsimp only [zRet]
  have hC2 := hC1.hi hF2 (by simp)
  refine gx_icmp_eq 1492 (pc := 644) dL_law_644 (by decide) (fun h644 => ?_) (fun h644 => ?_)
  · exact hf _ _ _ _ _ _ _ _ _ _ _ _ _ hC2 hR2 (hB.row (le300 (shA_b h12).1) (le300 (shA_b h12).2)) (by omega) (by omega)
  · exact absurd rfl h644

theorem case_price {E : zE} {b L j cz sz : Nat} {scr : Nat → Int32} {σ : zT} {tx : Nat × (Nat → Nat)} {bd : Nat × (Nat → Nat) × (Nat → Nat)} {sk : Nat × (Nat → Nat)} {tw : Nat × (Nat → Nat) × (Nat → Nat)} {xs : List Nat} {ld : Nat × (Nat → Nat)} {pa sh : Nat × (Nat → Nat → Nat)} {ru : Nat × (Nat → Nat) × (Nat → Nat)} {to : Nat × (Nat → Int64)} (hf : Fnl E b L scr j cz sz) (hg : Beg L j cz sz) (hC : ClsIs σ tx bd sk tw xs ld pa sh ru to) (hR : RefIs σ tx bd sk tw xs ld pa sh ru to) (hB : Bnd j ld.2 pa sh) : GL E b L scr cz sz σ 649 (lvL E b j) [] := by
  obtain ⟨g1, g2, g3, g4⟩ := hg
  have hro : Roomy ld.2 := hB.ro (by omega)
  have hok : RowOK ld.1 ld.2 := hC.2.2.2.2.2.1.1
  have h12 : ld.1 ≤ 12 := hok.2.1
  have hV : VOK (vOf bd sk xs ld.1) := hR.env.vok hok
  refine gx_aload_n (i := 1) (pc := 649) dL_law_649 rfl rfl ?_
  refine gx_aload_n (i := 0) (pc := 650) dL_law_650 rfl rfl ?_
  refine gx_iload (pc := 651) dL_law_651 rfl ?_
  refine gx_iconst (nI 1) (pc := 653) dL_law_653 (by decide) ?_
  first | with_reducible refine gx_iaddN (pc := 654) dL_law_654 ?_ | refine gx_iadd (pc := 654) dL_law_654 ?_
  refine gl_sld (5 * j + 1) (pc := 655) dL_law_655 rfl (by omega) (by omega) ?_
  refine gx_aload_n (i := 0) (pc := 656) dL_law_656 rfl rfl ?_
  refine gx_iload (pc := 657) dL_law_657 rfl ?_
  refine gx_iconst (nI 2) (pc := 659) dL_law_659 (by decide) ?_
  first | with_reducible refine gx_iaddN (pc := 660) dL_law_660 ?_ | refine gx_iadd (pc := 660) dL_law_660 ?_
  refine gl_sld (5 * j + 2) (pc := 661) dL_law_661 rfl (by omega) (by omega) ?_
  refine gx_callV ml_L_84 mt_X11_price (pc := 662) dL_law_662 (c_X11_price hC) rfl rfl rfl (by decide) ⟨(by show cz ≤ 601024; omega), (by show sz ≤ 7293034; omega)⟩ (by decide) rfl rfl (Nat.le_of_ble_eq_true rfl) (fun r σ' hp => ?_)
  obtain ⟨rfl, hC1, hF1⟩ := hp
  dsimp only [zRet]
  have hR1 := hR.sm hF1.sm
  refine gx_aload_n (i := 2) (pc := 665) dL_law_665 rfl rfl ?_
  refine gx_aload_n (i := 0) (pc := 666) dL_law_666 rfl rfl ?_
  refine gx_iload (pc := 667) dL_law_667 rfl ?_
  refine gx_iconst (nI 1) (pc := 669) dL_law_669 (by decide) ?_
  first | with_reducible refine gx_iaddN (pc := 670) dL_law_670 ?_ | refine gx_iadd (pc := 670) dL_law_670 ?_
  refine gl_sld (5 * j + 1) (pc := 671) dL_law_671 rfl (by omega) (by omega) ?_
  refine gx_aload_n (i := 0) (pc := 672) dL_law_672 rfl rfl ?_
  refine gx_iload (pc := 673) dL_law_673 rfl ?_
  refine gx_iconst (nI 2) (pc := 675) dL_law_675 (by decide) ?_
  first | with_reducible refine gx_iaddN (pc := 676) dL_law_676 ?_ | refine gx_iadd (pc := 676) dL_law_676 ?_
  refine gl_sld (5 * j + 2) (pc := 677) dL_law_677 rfl (by omega) (by omega) ?_
  refine gx_callV ml_L_87 mt_X12_price (pc := 678) dL_law_678 (c_X12_price hR1) rfl rfl rfl (by decide) ⟨(by show cz ≤ 601024; omega), (by show sz ≤ 7293034; omega)⟩ (by decide) rfl rfl (Nat.le_of_ble_eq_true rfl) (fun r σ' hp => ?_)
  obtain ⟨rfl, hR2, hF2⟩ := hp
  dsimp only [zRet]
  have hC2 := hC1.hi hF2 (by simp)
  refine gx_icmp_eq 1492 (pc := 681) dL_law_681 (by decide) (fun h681 => ?_) (fun h681 => ?_)
  · exact hf _ _ _ _ _ _ _ _ _ _ _ _ _ hC2 hR2 (hB.psh (le300 aPrice_b.1) (le300 aPrice_b.2)) (by omega) (by omega)
  · exact absurd rfl h681

theorem case_guard {E : zE} {b L j cz sz : Nat} {scr : Nat → Int32} {σ : zT} {tx : Nat × (Nat → Nat)} {bd : Nat × (Nat → Nat) × (Nat → Nat)} {sk : Nat × (Nat → Nat)} {tw : Nat × (Nat → Nat) × (Nat → Nat)} {xs : List Nat} {ld : Nat × (Nat → Nat)} {pa sh : Nat × (Nat → Nat → Nat)} {ru : Nat × (Nat → Nat) × (Nat → Nat)} {to : Nat × (Nat → Int64)} (hf : Fnl E b L scr j cz sz) (hg : Beg L j cz sz) (hC : ClsIs σ tx bd sk tw xs ld pa sh ru to) (hR : RefIs σ tx bd sk tw xs ld pa sh ru to) (hB : Bnd j ld.2 pa sh) : GL E b L scr cz sz σ 686 (lvL E b j) [] := by
  obtain ⟨g1, g2, g3, g4⟩ := hg
  have hro : Roomy ld.2 := hB.ro (by omega)
  have hok : RowOK ld.1 ld.2 := hC.2.2.2.2.2.1.1
  have h12 : ld.1 ≤ 12 := hok.2.1
  have hV : VOK (vOf bd sk xs ld.1) := hR.env.vok hok
  refine gx_aload_n (i := 1) (pc := 686) dL_law_686 rfl rfl ?_
  refine gx_aload_n (i := 0) (pc := 687) dL_law_687 rfl rfl ?_
  refine gx_iload (pc := 688) dL_law_688 rfl ?_
  refine gx_iconst (nI 1) (pc := 690) dL_law_690 (by decide) ?_
  first | with_reducible refine gx_iaddN (pc := 691) dL_law_691 ?_ | refine gx_iadd (pc := 691) dL_law_691 ?_
  refine gl_sld (5 * j + 1) (pc := 692) dL_law_692 rfl (by omega) (by omega) ?_
  refine gx_aload_n (i := 0) (pc := 693) dL_law_693 rfl rfl ?_
  refine gx_iload (pc := 694) dL_law_694 rfl ?_
  refine gx_iconst (nI 2) (pc := 696) dL_law_696 (by decide) ?_
  first | with_reducible refine gx_iaddN (pc := 697) dL_law_697 ?_ | refine gx_iadd (pc := 697) dL_law_697 ?_
  refine gl_sld (5 * j + 2) (pc := 698) dL_law_698 rfl (by omega) (by omega) ?_
  refine gx_callV ml_L_88 mt_X11_guard (pc := 699) dL_law_699 (c_X11_guard hC) rfl rfl rfl (by decide) ⟨(by show cz ≤ 601024; omega), (by show sz ≤ 7293034; omega)⟩ (by decide) rfl rfl (Nat.le_of_ble_eq_true rfl) (fun r σ' hp => ?_)
  obtain ⟨rfl, hC1, hF1⟩ := hp
  dsimp only [zRet]
  have hR1 := hR.sm hF1.sm
  refine gx_aload_n (i := 2) (pc := 702) dL_law_702 rfl rfl ?_
  refine gx_aload_n (i := 0) (pc := 703) dL_law_703 rfl rfl ?_
  refine gx_iload (pc := 704) dL_law_704 rfl ?_
  refine gx_iconst (nI 1) (pc := 706) dL_law_706 (by decide) ?_
  first | with_reducible refine gx_iaddN (pc := 707) dL_law_707 ?_ | refine gx_iadd (pc := 707) dL_law_707 ?_
  refine gl_sld (5 * j + 1) (pc := 708) dL_law_708 rfl (by omega) (by omega) ?_
  refine gx_aload_n (i := 0) (pc := 709) dL_law_709 rfl rfl ?_
  refine gx_iload (pc := 710) dL_law_710 rfl ?_
  refine gx_iconst (nI 2) (pc := 712) dL_law_712 (by decide) ?_
  first | with_reducible refine gx_iaddN (pc := 713) dL_law_713 ?_ | refine gx_iadd (pc := 713) dL_law_713 ?_
  refine gl_sld (5 * j + 2) (pc := 714) dL_law_714 rfl (by omega) (by omega) ?_
  refine gx_callV ml_L_91 mt_X12_guard (pc := 715) dL_law_715 (c_X12_guard hR1) rfl rfl rfl (by decide) ⟨(by show cz ≤ 601024; omega), (by show sz ≤ 7293034; omega)⟩ (by decide) rfl rfl (Nat.le_of_ble_eq_true rfl) (fun r σ' hp => ?_)
  obtain ⟨rfl, hR2, hF2⟩ := hp
  dsimp only [zRet]
  have hC2 := hC1.hi hF2 (by simp)
  refine gx_icmp_eq 1492 (pc := 718) dL_law_718 (by decide) (fun h718 => ?_) (fun h718 => ?_)
  · exact hf _ _ _ _ _ _ _ _ _ _ _ _ _ hC2 hR2 (hB.psh (le300 (aGuard_b h12).1) (le300 (aGuard_b h12).2)) (by omega) (by omega)
  · exact absurd rfl h718

theorem case_plant {E : zE} {b L j cz sz : Nat} {scr : Nat → Int32} {σ : zT} {tx : Nat × (Nat → Nat)} {bd : Nat × (Nat → Nat) × (Nat → Nat)} {sk : Nat × (Nat → Nat)} {tw : Nat × (Nat → Nat) × (Nat → Nat)} {xs : List Nat} {ld : Nat × (Nat → Nat)} {pa sh : Nat × (Nat → Nat → Nat)} {ru : Nat × (Nat → Nat) × (Nat → Nat)} {to : Nat × (Nat → Int64)} (hf : Fnl E b L scr j cz sz) (hg : Beg L j cz sz) (hC : ClsIs σ tx bd sk tw xs ld pa sh ru to) (hR : RefIs σ tx bd sk tw xs ld pa sh ru to) (hB : Bnd j ld.2 pa sh) : GL E b L scr cz sz σ 723 (lvL E b j) [] := by
  obtain ⟨g1, g2, g3, g4⟩ := hg
  have hro : Roomy ld.2 := hB.ro (by omega)
  have hok : RowOK ld.1 ld.2 := hC.2.2.2.2.2.1.1
  have h12 : ld.1 ≤ 12 := hok.2.1
  have hV : VOK (vOf bd sk xs ld.1) := hR.env.vok hok
  refine gx_aload_n (i := 1) (pc := 723) dL_law_723 rfl rfl ?_
  refine gx_aload_n (i := 0) (pc := 724) dL_law_724 rfl rfl ?_
  refine gx_iload (pc := 725) dL_law_725 rfl ?_
  refine gx_iconst (nI 1) (pc := 727) dL_law_727 (by decide) ?_
  first | with_reducible refine gx_iaddN (pc := 728) dL_law_728 ?_ | refine gx_iadd (pc := 728) dL_law_728 ?_
  refine gl_sld (5 * j + 1) (pc := 729) dL_law_729 rfl (by omega) (by omega) ?_
  refine gx_aload_n (i := 0) (pc := 730) dL_law_730 rfl rfl ?_
  refine gx_iload (pc := 731) dL_law_731 rfl ?_
  refine gx_iconst (nI 2) (pc := 733) dL_law_733 (by decide) ?_
  first | with_reducible refine gx_iaddN (pc := 734) dL_law_734 ?_ | refine gx_iadd (pc := 734) dL_law_734 ?_
  refine gl_sld (5 * j + 2) (pc := 735) dL_law_735 rfl (by omega) (by omega) ?_
  refine gx_callV ml_L_92 mt_X11_plant (pc := 736) dL_law_736 (c_X11_plant hC) rfl rfl rfl (by decide) ⟨(by show cz ≤ 601024; omega), (by show sz ≤ 7293034; omega)⟩ (by decide) rfl rfl (Nat.le_of_ble_eq_true rfl) (fun r σ' hp => ?_)
  obtain ⟨rfl, hC1, hF1⟩ := hp
  dsimp only [zRet]
  have hR1 := hR.sm hF1.sm
  refine gx_aload_n (i := 2) (pc := 739) dL_law_739 rfl rfl ?_
  refine gx_aload_n (i := 0) (pc := 740) dL_law_740 rfl rfl ?_
  refine gx_iload (pc := 741) dL_law_741 rfl ?_
  refine gx_iconst (nI 1) (pc := 743) dL_law_743 (by decide) ?_
  first | with_reducible refine gx_iaddN (pc := 744) dL_law_744 ?_ | refine gx_iadd (pc := 744) dL_law_744 ?_
  refine gl_sld (5 * j + 1) (pc := 745) dL_law_745 rfl (by omega) (by omega) ?_
  refine gx_aload_n (i := 0) (pc := 746) dL_law_746 rfl rfl ?_
  refine gx_iload (pc := 747) dL_law_747 rfl ?_
  refine gx_iconst (nI 2) (pc := 749) dL_law_749 (by decide) ?_
  first | with_reducible refine gx_iaddN (pc := 750) dL_law_750 ?_ | refine gx_iadd (pc := 750) dL_law_750 ?_
  refine gl_sld (5 * j + 2) (pc := 751) dL_law_751 rfl (by omega) (by omega) ?_
  refine gx_callV ml_L_95 mt_X12_plant (pc := 752) dL_law_752 (c_X12_plant hR1) rfl rfl rfl (by decide) ⟨(by show cz ≤ 601024; omega), (by show sz ≤ 7293034; omega)⟩ (by decide) rfl rfl (Nat.le_of_ble_eq_true rfl) (fun r σ' hp => ?_)
  obtain ⟨rfl, hR2, hF2⟩ := hp
  dsimp only [zRet]
  have hC2 := hC1.hi hF2 (by simp)
  refine gx_icmp_eq 1492 (pc := 755) dL_law_755 (by decide) (fun h755 => ?_) (fun h755 => ?_)
  · exact hf _ _ _ _ _ _ _ _ _ _ _ _ _ hC2 hR2 (hB.psh (le300 (aPlant_b h12).1) (le300 (aPlant_b h12).2)) (by omega) (by omega)
  · exact absurd rfl h755

theorem case_gate {E : zE} {b L j cz sz : Nat} {scr : Nat → Int32} {σ : zT} {tx : Nat × (Nat → Nat)} {bd : Nat × (Nat → Nat) × (Nat → Nat)} {sk : Nat × (Nat → Nat)} {tw : Nat × (Nat → Nat) × (Nat → Nat)} {xs : List Nat} {ld : Nat × (Nat → Nat)} {pa sh : Nat × (Nat → Nat → Nat)} {ru : Nat × (Nat → Nat) × (Nat → Nat)} {to : Nat × (Nat → Int64)} (hf : Fnl E b L scr j cz sz) (hg : Beg L j cz sz) (hC : ClsIs σ tx bd sk tw xs ld pa sh ru to) (hR : RefIs σ tx bd sk tw xs ld pa sh ru to) (hB : Bnd j ld.2 pa sh) : GL E b L scr cz sz σ 760 (lvL E b j) [] := by
  obtain ⟨g1, g2, g3, g4⟩ := hg
  have hro : Roomy ld.2 := hB.ro (by omega)
  have hok : RowOK ld.1 ld.2 := hC.2.2.2.2.2.1.1
  have h12 : ld.1 ≤ 12 := hok.2.1
  have hV : VOK (vOf bd sk xs ld.1) := hR.env.vok hok
  refine gx_aload_n (i := 1) (pc := 760) dL_law_760 rfl rfl ?_
  refine gx_aload_n (i := 0) (pc := 761) dL_law_761 rfl rfl ?_
  refine gx_iload (pc := 762) dL_law_762 rfl ?_
  refine gx_iconst (nI 1) (pc := 764) dL_law_764 (by decide) ?_
  first | with_reducible refine gx_iaddN (pc := 765) dL_law_765 ?_ | refine gx_iadd (pc := 765) dL_law_765 ?_
  refine gl_sld (5 * j + 1) (pc := 766) dL_law_766 rfl (by omega) (by omega) ?_
  refine gx_callV ml_L_96 mt_X11_gate (pc := 767) dL_law_767 (c_X11_gate hC) rfl rfl rfl (by decide) ⟨(by show cz ≤ 601024; omega), (by show sz ≤ 7293034; omega)⟩ (by decide) rfl rfl (Nat.le_of_ble_eq_true rfl) (fun r σ' hp => ?_)
  obtain ⟨rfl, hC1, hF1⟩ := hp
  dsimp only [zRet]
  have hR1 := hR.sm hF1.sm
  refine gx_aload_n (i := 2) (pc := 770) dL_law_770 rfl rfl ?_
  refine gx_aload_n (i := 0) (pc := 771) dL_law_771 rfl rfl ?_
  refine gx_iload (pc := 772) dL_law_772 rfl ?_
  refine gx_iconst (nI 1) (pc := 774) dL_law_774 (by decide) ?_
  first | with_reducible refine gx_iaddN (pc := 775) dL_law_775 ?_ | refine gx_iadd (pc := 775) dL_law_775 ?_
  refine gl_sld (5 * j + 1) (pc := 776) dL_law_776 rfl (by omega) (by omega) ?_
  refine gx_callV ml_L_99 mt_X12_gate (pc := 777) dL_law_777 (c_X12_gate hR1) rfl rfl rfl (by decide) ⟨(by show cz ≤ 601024; omega), (by show sz ≤ 7293034; omega)⟩ (by decide) rfl rfl (Nat.le_of_ble_eq_true rfl) (fun r σ' hp => ?_)
  obtain ⟨rfl, hR2, hF2⟩ := hp
  dsimp only [zRet]
  have hC2 := hC1.hi hF2 (by simp)
  refine gx_icmp_eq 1492 (pc := 780) dL_law_780 (by decide) (fun h780 => ?_) (fun h780 => ?_)
  · exact hf _ _ _ _ _ _ _ _ _ _ _ _ _ hC2 hR2 (hB.psh (le300 (aGate_b h12).1) (le300 (aGate_b h12).2)) (by omega) (by omega)
  · exact absurd rfl h780

theorem case_weeks {E : zE} {b L j cz sz : Nat} {scr : Nat → Int32} {σ : zT} {tx : Nat × (Nat → Nat)} {bd : Nat × (Nat → Nat) × (Nat → Nat)} {sk : Nat × (Nat → Nat)} {tw : Nat × (Nat → Nat) × (Nat → Nat)} {xs : List Nat} {ld : Nat × (Nat → Nat)} {pa sh : Nat × (Nat → Nat → Nat)} {ru : Nat × (Nat → Nat) × (Nat → Nat)} {to : Nat × (Nat → Int64)} (hf : Fnl E b L scr j cz sz) (hg : Beg L j cz sz) (hC : ClsIs σ tx bd sk tw xs ld pa sh ru to) (hR : RefIs σ tx bd sk tw xs ld pa sh ru to) (hB : Bnd j ld.2 pa sh) : GL E b L scr cz sz σ 785 (lvL E b j) [] := by
  obtain ⟨g1, g2, g3, g4⟩ := hg
  have hro : Roomy ld.2 := hB.ro (by omega)
  have hok : RowOK ld.1 ld.2 := hC.2.2.2.2.2.1.1
  have h12 : ld.1 ≤ 12 := hok.2.1
  have hV : VOK (vOf bd sk xs ld.1) := hR.env.vok hok
  refine gx_aload_n (i := 1) (pc := 785) dL_law_785 rfl rfl ?_
  refine gx_aload_n (i := 0) (pc := 786) dL_law_786 rfl rfl ?_
  refine gx_iload (pc := 787) dL_law_787 rfl ?_
  refine gx_iconst (nI 1) (pc := 789) dL_law_789 (by decide) ?_
  first | with_reducible refine gx_iaddN (pc := 790) dL_law_790 ?_ | refine gx_iadd (pc := 790) dL_law_790 ?_
  refine gl_sld (5 * j + 1) (pc := 791) dL_law_791 rfl (by omega) (by omega) ?_
  refine gx_callV ml_L_100 mt_X11_weeks (pc := 792) dL_law_792 (c_X11_weeks hC hro) rfl rfl rfl (by decide) ⟨(by show cz ≤ 601024; omega), (by show sz ≤ 7293034; omega)⟩ (by decide) rfl rfl (Nat.le_of_ble_eq_true rfl) (fun r σ' hp => ?_)
  obtain ⟨rfl, hC1, hF1⟩ := hp
  dsimp only [zRet]
  have hR1 := hR.sm hF1.sm
  refine gx_aload_n (i := 2) (pc := 795) dL_law_795 rfl rfl ?_
  refine gx_aload_n (i := 0) (pc := 796) dL_law_796 rfl rfl ?_
  refine gx_iload (pc := 797) dL_law_797 rfl ?_
  refine gx_iconst (nI 1) (pc := 799) dL_law_799 (by decide) ?_
  first | with_reducible refine gx_iaddN (pc := 800) dL_law_800 ?_ | refine gx_iadd (pc := 800) dL_law_800 ?_
  refine gl_sld (5 * j + 1) (pc := 801) dL_law_801 rfl (by omega) (by omega) ?_
  refine gx_callV ml_L_103 mt_X12_weeks (pc := 802) dL_law_802 (c_X12_weeks hR1 hro) rfl rfl rfl (by decide) ⟨(by show cz ≤ 601024; omega), (by show sz ≤ 7293034; omega)⟩ (by decide) rfl rfl (Nat.le_of_ble_eq_true rfl) (fun r σ' hp => ?_)
  obtain ⟨rfl, hR2, hF2⟩ := hp
  dsimp only [zRet]
  have hC2 := hC1.hi hF2 (by simp)
  refine gx_icmp_eq 1492 (pc := 805) dL_law_805 (by decide) (fun h805 => ?_) (fun h805 => ?_)
  · exact hf _ _ _ _ _ _ _ _ _ _ _ _ _ hC2 hR2 (hB.weeks hV hok hro) (by omega) (by omega)
  · exact absurd rfl h805

theorem case_log {E : zE} {b L j cz sz : Nat} {scr : Nat → Int32} {σ : zT} {tx : Nat × (Nat → Nat)} {bd : Nat × (Nat → Nat) × (Nat → Nat)} {sk : Nat × (Nat → Nat)} {tw : Nat × (Nat → Nat) × (Nat → Nat)} {xs : List Nat} {ld : Nat × (Nat → Nat)} {pa sh : Nat × (Nat → Nat → Nat)} {ru : Nat × (Nat → Nat) × (Nat → Nat)} {to : Nat × (Nat → Int64)} (hf : Fnl E b L scr j cz sz) (hg : Beg L j cz sz) (hC : ClsIs σ tx bd sk tw xs ld pa sh ru to) (hR : RefIs σ tx bd sk tw xs ld pa sh ru to) (hB : Bnd j ld.2 pa sh) : GL E b L scr cz sz σ 810 (lvL E b j) [] := by
  obtain ⟨g1, g2, g3, g4⟩ := hg
  have hro : Roomy ld.2 := hB.ro (by omega)
  have hok : RowOK ld.1 ld.2 := hC.2.2.2.2.2.1.1
  have h12 : ld.1 ≤ 12 := hok.2.1
  have hV : VOK (vOf bd sk xs ld.1) := hR.env.vok hok
  refine gx_aload_n (i := 1) (pc := 810) dL_law_810 rfl rfl ?_
  refine gx_callV ml_L_104 mt_X11_log (pc := 811) dL_law_811 (c_X11_log hC hro) rfl rfl rfl (by decide) ⟨(by show cz ≤ 601024; omega), (by show sz ≤ 7293034; omega)⟩ (by decide) rfl rfl (Nat.le_of_ble_eq_true rfl) (fun r σ' hp => ?_)
  obtain ⟨rfl, hC1, hF1⟩ := hp
  dsimp only [zRet]
  have hR1 := hR.sm hF1.sm
  refine gx_aload_n (i := 2) (pc := 814) dL_law_814 rfl rfl ?_
  refine gx_callV ml_L_107 mt_X12_log (pc := 815) dL_law_815 (c_X12_log hR1 hro) rfl rfl rfl (by decide) ⟨(by show cz ≤ 601024; omega), (by show sz ≤ 7293034; omega)⟩ (by decide) rfl rfl (Nat.le_of_ble_eq_true rfl) (fun r σ' hp => ?_)
  obtain ⟨rfl, hR2, hF2⟩ := hp
  dsimp only [zRet]
  have hC2 := hC1.hi hF2 (by simp)
  refine gx_icmp_eq 1492 (pc := 818) dL_law_818 (by decide) (fun h818 => ?_) (fun h818 => ?_)
  · exact hf _ _ _ _ _ _ _ _ _ _ _ _ _ hC2 hR2 (hB.log hV hok hro) (by omega) (by omega)
  · exact absurd rfl h818

theorem case_undo {E : zE} {b L j cz sz : Nat} {scr : Nat → Int32} {σ : zT} {tx : Nat × (Nat → Nat)} {bd : Nat × (Nat → Nat) × (Nat → Nat)} {sk : Nat × (Nat → Nat)} {tw : Nat × (Nat → Nat) × (Nat → Nat)} {xs : List Nat} {ld : Nat × (Nat → Nat)} {pa sh : Nat × (Nat → Nat → Nat)} {ru : Nat × (Nat → Nat) × (Nat → Nat)} {to : Nat × (Nat → Int64)} (hf : Fnl E b L scr j cz sz) (hg : Beg L j cz sz) (hC : ClsIs σ tx bd sk tw xs ld pa sh ru to) (hR : RefIs σ tx bd sk tw xs ld pa sh ru to) (hB : Bnd j ld.2 pa sh) : GL E b L scr cz sz σ 823 (lvL E b j) [] := by
  obtain ⟨g1, g2, g3, g4⟩ := hg
  have hro : Roomy ld.2 := hB.ro (by omega)
  have hok : RowOK ld.1 ld.2 := hC.2.2.2.2.2.1.1
  have h12 : ld.1 ≤ 12 := hok.2.1
  have hV : VOK (vOf bd sk xs ld.1) := hR.env.vok hok
  refine gx_aload_n (i := 1) (pc := 823) dL_law_823 rfl rfl ?_
  refine gx_callV ml_L_108 mt_X11_undo (pc := 824) dL_law_824 (c_X11_undo hC) rfl rfl rfl (by decide) ⟨(by show cz ≤ 601024; omega), (by show sz ≤ 7293034; omega)⟩ (by decide) rfl rfl (Nat.le_of_ble_eq_true rfl) (fun r σ' hp => ?_)
  obtain ⟨rfl, hC1, hF1⟩ := hp
  dsimp only [zRet]
  have hR1 := hR.sm hF1.sm
  refine gx_aload_n (i := 2) (pc := 827) dL_law_827 rfl rfl ?_
  refine gx_callV ml_L_111 mt_X12_undo (pc := 828) dL_law_828 (c_X12_undo hR1) rfl rfl rfl (by decide) ⟨(by show cz ≤ 601024; omega), (by show sz ≤ 7293034; omega)⟩ (by decide) rfl rfl (Nat.le_of_ble_eq_true rfl) (fun r σ' hp => ?_)
  obtain ⟨rfl, hR2, hF2⟩ := hp
  dsimp only [zRet]
  have hC2 := hC1.hi hF2 (by simp)
  refine gx_icmp_eq 1492 (pc := 831) dL_law_831 (by decide) (fun h831 => ?_) (fun h831 => ?_)
  · exact hf _ _ _ _ _ _ _ _ _ _ _ _ _ hC2 hR2 hB.undo (by omega) (by omega)
  · exact absurd rfl h831

theorem case_goes {E : zE} {b L j cz sz : Nat} {scr : Nat → Int32} {σ : zT} {tx : Nat × (Nat → Nat)} {bd : Nat × (Nat → Nat) × (Nat → Nat)} {sk : Nat × (Nat → Nat)} {tw : Nat × (Nat → Nat) × (Nat → Nat)} {xs : List Nat} {ld : Nat × (Nat → Nat)} {pa sh : Nat × (Nat → Nat → Nat)} {ru : Nat × (Nat → Nat) × (Nat → Nat)} {to : Nat × (Nat → Int64)} (hf : Fnl E b L scr j cz sz) (hg : Beg L j cz sz) (hC : ClsIs σ tx bd sk tw xs ld pa sh ru to) (hR : RefIs σ tx bd sk tw xs ld pa sh ru to) (hB : Bnd j ld.2 pa sh) : GL E b L scr cz sz σ 836 (lvL E b j) [] := by
  obtain ⟨g1, g2, g3, g4⟩ := hg
  have hro : Roomy ld.2 := hB.ro (by omega)
  have hok : RowOK ld.1 ld.2 := hC.2.2.2.2.2.1.1
  have h12 : ld.1 ≤ 12 := hok.2.1
  have hV : VOK (vOf bd sk xs ld.1) := hR.env.vok hok
  refine gx_aload_n (i := 1) (pc := 836) dL_law_836 rfl rfl ?_
  refine gx_callV ml_L_112 mt_X11_goes (pc := 837) dL_law_837 (c_X11_goes hC) rfl rfl rfl (by decide) ⟨(by show cz ≤ 601024; omega), (by show sz ≤ 7293034; omega)⟩ (by decide) rfl rfl (Nat.le_of_ble_eq_true rfl) (fun r σ' hp => ?_)
  obtain ⟨rfl, hC1, hF1⟩ := hp
  dsimp only [zRet]
  have hR1 := hR.sm hF1.sm
  refine gx_aload_n (i := 2) (pc := 840) dL_law_840 rfl rfl ?_
  refine gx_callV ml_L_115 mt_X12_goes (pc := 841) dL_law_841 (c_X12_goes hR1 hro) rfl rfl rfl (by decide) ⟨(by show cz ≤ 601024; omega), (by show sz ≤ 7293034; omega)⟩ (by decide) rfl rfl (Nat.le_of_ble_eq_true rfl) (fun r σ' hp => ?_)
  obtain ⟨rfl, hR2, hF2⟩ := hp
  dsimp only [zRet]
  have hC2 := hC1.hi hF2 (by simp)
  refine gx_icmp_eq 1492 (pc := 844) dL_law_844 (by decide) (fun h844 => ?_) (fun h844 => ?_)
  · exact hf _ _ _ _ _ _ _ _ _ _ _ _ _ hC2 hR2 hB.up (by omega) (by omega)
  · exact absurd rfl h844

theorem case_ahead {E : zE} {b L j cz sz : Nat} {scr : Nat → Int32} {σ : zT} {tx : Nat × (Nat → Nat)} {bd : Nat × (Nat → Nat) × (Nat → Nat)} {sk : Nat × (Nat → Nat)} {tw : Nat × (Nat → Nat) × (Nat → Nat)} {xs : List Nat} {ld : Nat × (Nat → Nat)} {pa sh : Nat × (Nat → Nat → Nat)} {ru : Nat × (Nat → Nat) × (Nat → Nat)} {to : Nat × (Nat → Int64)} (hf : Fnl E b L scr j cz sz) (hg : Beg L j cz sz) (hC : ClsIs σ tx bd sk tw xs ld pa sh ru to) (hR : RefIs σ tx bd sk tw xs ld pa sh ru to) (hB : Bnd j ld.2 pa sh) : GL E b L scr cz sz σ 849 (lvL E b j) [] := by
  obtain ⟨g1, g2, g3, g4⟩ := hg
  have hro : Roomy ld.2 := hB.ro (by omega)
  have hok : RowOK ld.1 ld.2 := hC.2.2.2.2.2.1.1
  have h12 : ld.1 ≤ 12 := hok.2.1
  have hV : VOK (vOf bd sk xs ld.1) := hR.env.vok hok
  refine gx_aload_n (i := 1) (pc := 849) dL_law_849 rfl rfl ?_
  refine gx_aload_n (i := 0) (pc := 850) dL_law_850 rfl rfl ?_
  refine gx_iload (pc := 851) dL_law_851 rfl ?_
  refine gx_iconst (nI 1) (pc := 853) dL_law_853 (by decide) ?_
  first | with_reducible refine gx_iaddN (pc := 854) dL_law_854 ?_ | refine gx_iadd (pc := 854) dL_law_854 ?_
  refine gl_sld (5 * j + 1) (pc := 855) dL_law_855 rfl (by omega) (by omega) ?_
  refine gx_callV ml_L_116 mt_X11_ahead (pc := 856) dL_law_856 (c_X11_ahead hC hro) rfl rfl rfl (by decide) ⟨(by show cz ≤ 601024; omega), (by show sz ≤ 7293034; omega)⟩ (by decide) rfl rfl (Nat.le_of_ble_eq_true rfl) (fun r σ' hp => ?_)
  obtain ⟨rfl, hC1, hF1⟩ := hp
  dsimp only [zRet]
  have hR1 := hR.sm hF1.sm
  refine gx_aload_n (i := 2) (pc := 859) dL_law_859 rfl rfl ?_
  refine gx_aload_n (i := 0) (pc := 860) dL_law_860 rfl rfl ?_
  refine gx_iload (pc := 861) dL_law_861 rfl ?_
  refine gx_iconst (nI 1) (pc := 863) dL_law_863 (by decide) ?_
  first | with_reducible refine gx_iaddN (pc := 864) dL_law_864 ?_ | refine gx_iadd (pc := 864) dL_law_864 ?_
  refine gl_sld (5 * j + 1) (pc := 865) dL_law_865 rfl (by omega) (by omega) ?_
  refine gx_callV ml_L_119 mt_X12_ahead (pc := 866) dL_law_866 (c_X12_ahead hR1 hro) rfl rfl rfl (by decide) ⟨(by show cz ≤ 601024; omega), (by show sz ≤ 7293034; omega)⟩ (by decide) rfl rfl (Nat.le_of_ble_eq_true rfl) (fun r σ' hp => ?_)
  obtain ⟨rfl, hR2, hF2⟩ := hp
  dsimp only [zRet]
  have hC2 := hC1.hi hF2 (by simp)
  refine gx_icmp_eq 1492 (pc := 869) dL_law_869 (by decide) (fun h869 => ?_) (fun h869 => ?_)
  · exact hf _ _ _ _ _ _ _ _ _ _ _ _ _ hC2 hR2 hB.up (by omega) (by omega)
  · exact absurd rfl h869

theorem case_holds {E : zE} {b L j cz sz : Nat} {scr : Nat → Int32} {σ : zT} {tx : Nat × (Nat → Nat)} {bd : Nat × (Nat → Nat) × (Nat → Nat)} {sk : Nat × (Nat → Nat)} {tw : Nat × (Nat → Nat) × (Nat → Nat)} {xs : List Nat} {ld : Nat × (Nat → Nat)} {pa sh : Nat × (Nat → Nat → Nat)} {ru : Nat × (Nat → Nat) × (Nat → Nat)} {to : Nat × (Nat → Int64)} (hf : Fnl E b L scr j cz sz) (hg : Beg L j cz sz) (hC : ClsIs σ tx bd sk tw xs ld pa sh ru to) (hR : RefIs σ tx bd sk tw xs ld pa sh ru to) (hB : Bnd j ld.2 pa sh) : GL E b L scr cz sz σ 874 (lvL E b j) [] := by
  obtain ⟨g1, g2, g3, g4⟩ := hg
  have hro : Roomy ld.2 := hB.ro (by omega)
  have hok : RowOK ld.1 ld.2 := hC.2.2.2.2.2.1.1
  have h12 : ld.1 ≤ 12 := hok.2.1
  have hV : VOK (vOf bd sk xs ld.1) := hR.env.vok hok
  refine gx_aload_n (i := 1) (pc := 874) dL_law_874 rfl rfl ?_
  refine gx_callV ml_L_120 mt_X11_holds (pc := 875) dL_law_875 (c_X11_holds hC hro) rfl rfl rfl (by decide) ⟨(by show cz ≤ 601024; omega), (by show sz ≤ 7293034; omega)⟩ (by decide) rfl rfl (Nat.le_of_ble_eq_true rfl) (fun r σ' hp => ?_)
  obtain ⟨rfl, hC1, hF1⟩ := hp
  dsimp only [zRet]
  have hR1 := hR.sm hF1.sm
  refine gx_aload_n (i := 2) (pc := 878) dL_law_878 rfl rfl ?_
  refine gx_callV ml_L_123 mt_X12_holds (pc := 879) dL_law_879 (c_X12_holds hR1 hro) rfl rfl rfl (by decide) ⟨(by show cz ≤ 601024; omega), (by show sz ≤ 7293034; omega)⟩ (by decide) rfl rfl (Nat.le_of_ble_eq_true rfl) (fun r σ' hp => ?_)
  obtain ⟨rfl, hR2, hF2⟩ := hp
  dsimp only [zRet]
  have hC2 := hC1.hi hF2 (by simp)
  refine gx_icmp_eq 1492 (pc := 882) dL_law_882 (by decide) (fun h882 => ?_) (fun h882 => ?_)
  · exact hf _ _ _ _ _ _ _ _ _ _ _ _ _ hC2 hR2 hB.up (by omega) (by omega)
  · exact absurd rfl h882

theorem case_keeps {E : zE} {b L j cz sz : Nat} {scr : Nat → Int32} {σ : zT} {tx : Nat × (Nat → Nat)} {bd : Nat × (Nat → Nat) × (Nat → Nat)} {sk : Nat × (Nat → Nat)} {tw : Nat × (Nat → Nat) × (Nat → Nat)} {xs : List Nat} {ld : Nat × (Nat → Nat)} {pa sh : Nat × (Nat → Nat → Nat)} {ru : Nat × (Nat → Nat) × (Nat → Nat)} {to : Nat × (Nat → Int64)} (hf : Fnl E b L scr j cz sz) (hg : Beg L j cz sz) (hC : ClsIs σ tx bd sk tw xs ld pa sh ru to) (hR : RefIs σ tx bd sk tw xs ld pa sh ru to) (hB : Bnd j ld.2 pa sh) : GL E b L scr cz sz σ 887 (lvL E b j) [] := by
  obtain ⟨g1, g2, g3, g4⟩ := hg
  have hro : Roomy ld.2 := hB.ro (by omega)
  have hok : RowOK ld.1 ld.2 := hC.2.2.2.2.2.1.1
  have h12 : ld.1 ≤ 12 := hok.2.1
  have hV : VOK (vOf bd sk xs ld.1) := hR.env.vok hok
  refine gx_aload_n (i := 1) (pc := 887) dL_law_887 rfl rfl ?_
  refine gx_callV ml_L_124 mt_X11_keeps (pc := 888) dL_law_888 (c_X11_keeps hC) rfl rfl rfl (by decide) ⟨(by show cz ≤ 601024; omega), (by show sz ≤ 7293034; omega)⟩ (by decide) rfl rfl (Nat.le_of_ble_eq_true rfl) (fun r σ' hp => ?_)
  obtain ⟨rfl, hC1, hF1⟩ := hp
  dsimp only [zRet]
  have hR1 := hR.sm hF1.sm
  refine gx_aload_n (i := 2) (pc := 891) dL_law_891 rfl rfl ?_
  refine gx_callV ml_L_127 mt_X12_keeps (pc := 892) dL_law_892 (c_X12_keeps hR1 hro) rfl rfl rfl (by decide) ⟨(by show cz ≤ 601024; omega), (by show sz ≤ 7293034; omega)⟩ (by decide) rfl rfl (Nat.le_of_ble_eq_true rfl) (fun r σ' hp => ?_)
  obtain ⟨rfl, hR2, hF2⟩ := hp
  dsimp only [zRet]
  have hC2 := hC1.hi hF2 (by simp)
  refine gx_icmp_eq 1492 (pc := 895) dL_law_895 (by decide) (fun h895 => ?_) (fun h895 => ?_)
  · exact hf _ _ _ _ _ _ _ _ _ _ _ _ _ hC2 hR2 hB.up (by omega) (by omega)
  · exact absurd rfl h895

theorem case_tax {E : zE} {b L j cz sz : Nat} {scr : Nat → Int32} {σ : zT} {tx : Nat × (Nat → Nat)} {bd : Nat × (Nat → Nat) × (Nat → Nat)} {sk : Nat × (Nat → Nat)} {tw : Nat × (Nat → Nat) × (Nat → Nat)} {xs : List Nat} {ld : Nat × (Nat → Nat)} {pa sh : Nat × (Nat → Nat → Nat)} {ru : Nat × (Nat → Nat) × (Nat → Nat)} {to : Nat × (Nat → Int64)} (hf : Fnl E b L scr j cz sz) (hg : Beg L j cz sz) (hC : ClsIs σ tx bd sk tw xs ld pa sh ru to) (hR : RefIs σ tx bd sk tw xs ld pa sh ru to) (hB : Bnd j ld.2 pa sh) : GL E b L scr cz sz σ 900 (lvL E b j) [] := by
  obtain ⟨g1, g2, g3, g4⟩ := hg
  have hro : Roomy ld.2 := hB.ro (by omega)
  have hok : RowOK ld.1 ld.2 := hC.2.2.2.2.2.1.1
  have h12 : ld.1 ≤ 12 := hok.2.1
  have hV : VOK (vOf bd sk xs ld.1) := hR.env.vok hok
  refine gx_aload_n (i := 1) (pc := 900) dL_law_900 rfl rfl ?_
  refine gx_callV ml_L_128 mt_X11_tax (pc := 901) dL_law_901 (c_X11_tax hC) rfl rfl rfl (by decide) ⟨(by show cz ≤ 601024; omega), (by show sz ≤ 7293034; omega)⟩ (by decide) rfl rfl (Nat.le_of_ble_eq_true rfl) (fun r σ' hp => ?_)
  obtain ⟨rfl, hC1, hF1⟩ := hp
  dsimp only [zRet]
  have hR1 := hR.sm hF1.sm
  refine gx_aload_n (i := 2) (pc := 904) dL_law_904 rfl rfl ?_
  refine gx_callV ml_L_131 mt_X12_tax (pc := 905) dL_law_905 (c_X12_tax hR1 hro) rfl rfl rfl (by decide) ⟨(by show cz ≤ 601024; omega), (by show sz ≤ 7293034; omega)⟩ (by decide) rfl rfl (Nat.le_of_ble_eq_true rfl) (fun r σ' hp => ?_)
  obtain ⟨rfl, hR2, hF2⟩ := hp
  dsimp only [zRet]
  have hC2 := hC1.hi hF2 (by simp)
  refine gx_icmp_eq 1492 (pc := 908) dL_law_908 (by decide) (fun h908 => ?_) (fun h908 => ?_)
  · exact hf _ _ _ _ _ _ _ _ _ _ _ _ _ hC2 hR2 hB.up (by omega) (by omega)
  · exact absurd rfl h908

theorem case_without {E : zE} {b L j cz sz : Nat} {scr : Nat → Int32} {σ : zT} {tx : Nat × (Nat → Nat)} {bd : Nat × (Nat → Nat) × (Nat → Nat)} {sk : Nat × (Nat → Nat)} {tw : Nat × (Nat → Nat) × (Nat → Nat)} {xs : List Nat} {ld : Nat × (Nat → Nat)} {pa sh : Nat × (Nat → Nat → Nat)} {ru : Nat × (Nat → Nat) × (Nat → Nat)} {to : Nat × (Nat → Int64)} (hf : Fnl E b L scr j cz sz) (hg : Beg L j cz sz) (hC : ClsIs σ tx bd sk tw xs ld pa sh ru to) (hR : RefIs σ tx bd sk tw xs ld pa sh ru to) (hB : Bnd j ld.2 pa sh) : GL E b L scr cz sz σ 913 (lvL E b j) [] := by
  obtain ⟨g1, g2, g3, g4⟩ := hg
  have hro : Roomy ld.2 := hB.ro (by omega)
  have hok : RowOK ld.1 ld.2 := hC.2.2.2.2.2.1.1
  have h12 : ld.1 ≤ 12 := hok.2.1
  have hV : VOK (vOf bd sk xs ld.1) := hR.env.vok hok
  refine gx_aload_n (i := 1) (pc := 913) dL_law_913 rfl rfl ?_
  refine gx_aload_n (i := 0) (pc := 914) dL_law_914 rfl rfl ?_
  refine gx_iload (pc := 915) dL_law_915 rfl ?_
  refine gx_iconst (nI 1) (pc := 917) dL_law_917 (by decide) ?_
  first | with_reducible refine gx_iaddN (pc := 918) dL_law_918 ?_ | refine gx_iadd (pc := 918) dL_law_918 ?_
  refine gl_sld (5 * j + 1) (pc := 919) dL_law_919 rfl (by omega) (by omega) ?_
  refine gx_callV ml_L_132 mt_X11_without (pc := 920) dL_law_920 (c_X11_without hC) rfl rfl rfl (by decide) ⟨(by show cz ≤ 601024; omega), (by show sz ≤ 7293034; omega)⟩ (by decide) rfl rfl (Nat.le_of_ble_eq_true rfl) (fun r σ' hp => ?_)
  obtain ⟨rfl, hC1, hF1⟩ := hp
  dsimp only [zRet]
  have hR1 := hR.sm hF1.sm
  refine gx_aload_n (i := 2) (pc := 923) dL_law_923 rfl rfl ?_
  refine gx_aload_n (i := 0) (pc := 924) dL_law_924 rfl rfl ?_
  refine gx_iload (pc := 925) dL_law_925 rfl ?_
  refine gx_iconst (nI 1) (pc := 927) dL_law_927 (by decide) ?_
  first | with_reducible refine gx_iaddN (pc := 928) dL_law_928 ?_ | refine gx_iadd (pc := 928) dL_law_928 ?_
  refine gl_sld (5 * j + 1) (pc := 929) dL_law_929 rfl (by omega) (by omega) ?_
  refine gx_callV ml_L_135 mt_X12_without (pc := 930) dL_law_930 (c_X12_without hR1) rfl rfl rfl (by decide) ⟨(by show cz ≤ 601024; omega), (by show sz ≤ 7293034; omega)⟩ (by decide) rfl rfl (Nat.le_of_ble_eq_true rfl) (fun r σ' hp => ?_)
  obtain ⟨rfl, hR2, hF2⟩ := hp
  dsimp only [zRet]
  have hC2 := hC1.hi hF2 (by simp)
  refine gx_icmp_eq 1492 (pc := 933) dL_law_933 (by decide) (fun h933 => ?_) (fun h933 => ?_)
  · exact hf _ _ _ _ _ _ _ _ _ _ _ _ _ hC2 hR2 hB.up (by omega) (by omega)
  · exact absurd rfl h933

theorem case_beats {E : zE} {b L j cz sz : Nat} {scr : Nat → Int32} {σ : zT} {tx : Nat × (Nat → Nat)} {bd : Nat × (Nat → Nat) × (Nat → Nat)} {sk : Nat × (Nat → Nat)} {tw : Nat × (Nat → Nat) × (Nat → Nat)} {xs : List Nat} {ld : Nat × (Nat → Nat)} {pa sh : Nat × (Nat → Nat → Nat)} {ru : Nat × (Nat → Nat) × (Nat → Nat)} {to : Nat × (Nat → Int64)} (hf : Fnl E b L scr j cz sz) (hg : Beg L j cz sz) (hC : ClsIs σ tx bd sk tw xs ld pa sh ru to) (hR : RefIs σ tx bd sk tw xs ld pa sh ru to) (hB : Bnd j ld.2 pa sh) : GL E b L scr cz sz σ 938 (lvL E b j) [] := by
  obtain ⟨g1, g2, g3, g4⟩ := hg
  have hro : Roomy ld.2 := hB.ro (by omega)
  have hok : RowOK ld.1 ld.2 := hC.2.2.2.2.2.1.1
  have h12 : ld.1 ≤ 12 := hok.2.1
  have hV : VOK (vOf bd sk xs ld.1) := hR.env.vok hok
  refine gx_aload_n (i := 1) (pc := 938) dL_law_938 rfl rfl ?_
  refine gx_aload_n (i := 0) (pc := 939) dL_law_939 rfl rfl ?_
  refine gx_iload (pc := 940) dL_law_940 rfl ?_
  refine gx_iconst (nI 1) (pc := 942) dL_law_942 (by decide) ?_
  first | with_reducible refine gx_iaddN (pc := 943) dL_law_943 ?_ | refine gx_iadd (pc := 943) dL_law_943 ?_
  refine gl_sld (5 * j + 1) (pc := 944) dL_law_944 rfl (by omega) (by omega) ?_
  refine gx_callV ml_L_136 mt_X11_beats (pc := 945) dL_law_945 (c_X11_beatsS hC) rfl rfl rfl (by decide) ⟨(by show cz ≤ 601024; omega), (by show sz ≤ 7293034; omega)⟩ (by decide) rfl rfl (Nat.le_of_ble_eq_true rfl) (fun r σ' hp => ?_)
  obtain ⟨rfl, hC1, hF1⟩ := hp
  dsimp only [zRet]
  have hR1 := hR.sm hF1.sm
  refine gx_aload_n (i := 2) (pc := 948) dL_law_948 rfl rfl ?_
  refine gx_aload_n (i := 0) (pc := 949) dL_law_949 rfl rfl ?_
  refine gx_iload (pc := 950) dL_law_950 rfl ?_
  refine gx_iconst (nI 1) (pc := 952) dL_law_952 (by decide) ?_
  first | with_reducible refine gx_iaddN (pc := 953) dL_law_953 ?_ | refine gx_iadd (pc := 953) dL_law_953 ?_
  refine gl_sld (5 * j + 1) (pc := 954) dL_law_954 rfl (by omega) (by omega) ?_
  refine gx_callV ml_L_139 mt_X12_beats (pc := 955) dL_law_955 (c_X12_beats hR1 hro) rfl rfl rfl (by decide) ⟨(by show cz ≤ 601024; omega), (by show sz ≤ 7293034; omega)⟩ (by decide) rfl rfl (Nat.le_of_ble_eq_true rfl) (fun r σ' hp => ?_)
  obtain ⟨rfl, hR2, hF2⟩ := hp
  dsimp only [zRet]
  have hC2 := hC1.hi hF2 (by simp)
  refine gx_icmp_eq 1492 (pc := 958) dL_law_958 (by decide) (fun h958 => ?_) (fun h958 => ?_)
  · exact hf _ _ _ _ _ _ _ _ _ _ _ _ _ hC2 hR2 hB.up (by omega) (by omega)
  · exact absurd rfl h958

theorem case_thorns {E : zE} {b L j cz sz : Nat} {scr : Nat → Int32} {σ : zT} {tx : Nat × (Nat → Nat)} {bd : Nat × (Nat → Nat) × (Nat → Nat)} {sk : Nat × (Nat → Nat)} {tw : Nat × (Nat → Nat) × (Nat → Nat)} {xs : List Nat} {ld : Nat × (Nat → Nat)} {pa sh : Nat × (Nat → Nat → Nat)} {ru : Nat × (Nat → Nat) × (Nat → Nat)} {to : Nat × (Nat → Int64)} (hf : Fnl E b L scr j cz sz) (hg : Beg L j cz sz) (hC : ClsIs σ tx bd sk tw xs ld pa sh ru to) (hR : RefIs σ tx bd sk tw xs ld pa sh ru to) (hB : Bnd j ld.2 pa sh) : GL E b L scr cz sz σ 963 (lvL E b j) [] := by
  obtain ⟨g1, g2, g3, g4⟩ := hg
  have hro : Roomy ld.2 := hB.ro (by omega)
  have hok : RowOK ld.1 ld.2 := hC.2.2.2.2.2.1.1
  have h12 : ld.1 ≤ 12 := hok.2.1
  have hV : VOK (vOf bd sk xs ld.1) := hR.env.vok hok
  refine gx_aload_n (i := 1) (pc := 963) dL_law_963 rfl rfl ?_
  refine gx_aload_n (i := 0) (pc := 964) dL_law_964 rfl rfl ?_
  refine gx_iload (pc := 965) dL_law_965 rfl ?_
  refine gx_iconst (nI 1) (pc := 967) dL_law_967 (by decide) ?_
  first | with_reducible refine gx_iaddN (pc := 968) dL_law_968 ?_ | refine gx_iadd (pc := 968) dL_law_968 ?_
  refine gl_sld (5 * j + 1) (pc := 969) dL_law_969 rfl (by omega) (by omega) ?_
  refine gx_callV ml_L_140 mt_X11_thorns (pc := 970) dL_law_970 (c_X11_thorns hC hro) rfl rfl rfl (by decide) ⟨(by show cz ≤ 601024; omega), (by show sz ≤ 7293034; omega)⟩ (by decide) rfl rfl (Nat.le_of_ble_eq_true rfl) (fun r σ' hp => ?_)
  obtain ⟨rfl, hC1, hF1⟩ := hp
  dsimp only [zRet]
  have hR1 := hR.sm hF1.sm
  refine gx_aload_n (i := 2) (pc := 973) dL_law_973 rfl rfl ?_
  refine gx_aload_n (i := 0) (pc := 974) dL_law_974 rfl rfl ?_
  refine gx_iload (pc := 975) dL_law_975 rfl ?_
  refine gx_iconst (nI 1) (pc := 977) dL_law_977 (by decide) ?_
  first | with_reducible refine gx_iaddN (pc := 978) dL_law_978 ?_ | refine gx_iadd (pc := 978) dL_law_978 ?_
  refine gl_sld (5 * j + 1) (pc := 979) dL_law_979 rfl (by omega) (by omega) ?_
  refine gx_callV ml_L_143 mt_X12_thorns (pc := 980) dL_law_980 (c_X12_thorns hR1 hro) rfl rfl rfl (by decide) ⟨(by show cz ≤ 601024; omega), (by show sz ≤ 7293034; omega)⟩ (by decide) rfl rfl (Nat.le_of_ble_eq_true rfl) (fun r σ' hp => ?_)
  obtain ⟨rfl, hR2, hF2⟩ := hp
  dsimp only [zRet]
  have hC2 := hC1.hi hF2 (by simp)
  refine gx_icmp_eq 1492 (pc := 983) dL_law_983 (by decide) (fun h983 => ?_) (fun h983 => ?_)
  · exact hf _ _ _ _ _ _ _ _ _ _ _ _ _ hC2 hR2 hB.up (by omega) (by omega)
  · exact absurd rfl h983

theorem case_walls {E : zE} {b L j cz sz : Nat} {scr : Nat → Int32} {σ : zT} {tx : Nat × (Nat → Nat)} {bd : Nat × (Nat → Nat) × (Nat → Nat)} {sk : Nat × (Nat → Nat)} {tw : Nat × (Nat → Nat) × (Nat → Nat)} {xs : List Nat} {ld : Nat × (Nat → Nat)} {pa sh : Nat × (Nat → Nat → Nat)} {ru : Nat × (Nat → Nat) × (Nat → Nat)} {to : Nat × (Nat → Int64)} (hf : Fnl E b L scr j cz sz) (hg : Beg L j cz sz) (hC : ClsIs σ tx bd sk tw xs ld pa sh ru to) (hR : RefIs σ tx bd sk tw xs ld pa sh ru to) (hB : Bnd j ld.2 pa sh) : GL E b L scr cz sz σ 988 (lvL E b j) [] := by
  obtain ⟨g1, g2, g3, g4⟩ := hg
  have hro : Roomy ld.2 := hB.ro (by omega)
  have hok : RowOK ld.1 ld.2 := hC.2.2.2.2.2.1.1
  have h12 : ld.1 ≤ 12 := hok.2.1
  have hV : VOK (vOf bd sk xs ld.1) := hR.env.vok hok
  refine gx_aload_n (i := 1) (pc := 988) dL_law_988 rfl rfl ?_
  refine gx_callV ml_L_144 mt_X11_walls (pc := 989) dL_law_989 (c_X11_walls hC) rfl rfl rfl (by decide) ⟨(by show cz ≤ 601024; omega), (by show sz ≤ 7293034; omega)⟩ (by decide) rfl rfl (Nat.le_of_ble_eq_true rfl) (fun r σ' hp => ?_)
  obtain ⟨rfl, hC1, hF1⟩ := hp
  dsimp only [zRet]
  have hR1 := hR.sm hF1.sm
  refine gx_aload_n (i := 2) (pc := 992) dL_law_992 rfl rfl ?_
  refine gx_callV ml_L_147 mt_X12_walls (pc := 993) dL_law_993 (c_X12_walls hR1 hro) rfl rfl rfl (by decide) ⟨(by show cz ≤ 601024; omega), (by show sz ≤ 7293034; omega)⟩ (by decide) rfl rfl (Nat.le_of_ble_eq_true rfl) (fun r σ' hp => ?_)
  obtain ⟨rfl, hR2, hF2⟩ := hp
  dsimp only [zRet]
  have hC2 := hC1.hi hF2 (by simp)
  refine gx_icmp_eq 1492 (pc := 996) dL_law_996 (by decide) (fun h996 => ?_) (fun h996 => ?_)
  · exact hf _ _ _ _ _ _ _ _ _ _ _ _ _ hC2 hR2 hB.up (by omega) (by omega)
  · exact absurd rfl h996

theorem case_posts {E : zE} {b L j cz sz : Nat} {scr : Nat → Int32} {σ : zT} {tx : Nat × (Nat → Nat)} {bd : Nat × (Nat → Nat) × (Nat → Nat)} {sk : Nat × (Nat → Nat)} {tw : Nat × (Nat → Nat) × (Nat → Nat)} {xs : List Nat} {ld : Nat × (Nat → Nat)} {pa sh : Nat × (Nat → Nat → Nat)} {ru : Nat × (Nat → Nat) × (Nat → Nat)} {to : Nat × (Nat → Int64)} (hf : Fnl E b L scr j cz sz) (hg : Beg L j cz sz) (hC : ClsIs σ tx bd sk tw xs ld pa sh ru to) (hR : RefIs σ tx bd sk tw xs ld pa sh ru to) (hB : Bnd j ld.2 pa sh) : GL E b L scr cz sz σ 1001 (lvL E b j) [] := by
  obtain ⟨g1, g2, g3, g4⟩ := hg
  have hro : Roomy ld.2 := hB.ro (by omega)
  have hok : RowOK ld.1 ld.2 := hC.2.2.2.2.2.1.1
  have h12 : ld.1 ≤ 12 := hok.2.1
  have hV : VOK (vOf bd sk xs ld.1) := hR.env.vok hok
  refine gx_aload_n (i := 1) (pc := 1001) dL_law_1001 rfl rfl ?_
  refine gx_aload_n (i := 0) (pc := 1002) dL_law_1002 rfl rfl ?_
  refine gx_iload (pc := 1003) dL_law_1003 rfl ?_
  refine gx_iconst (nI 1) (pc := 1005) dL_law_1005 (by decide) ?_
  first | with_reducible refine gx_iaddN (pc := 1006) dL_law_1006 ?_ | refine gx_iadd (pc := 1006) dL_law_1006 ?_
  refine gl_sld (5 * j + 1) (pc := 1007) dL_law_1007 rfl (by omega) (by omega) ?_
  refine gx_callV ml_L_148 mt_X11_posts (pc := 1008) dL_law_1008 (c_X11_posts hC) rfl rfl rfl (by decide) ⟨(by show cz ≤ 601024; omega), (by show sz ≤ 7293034; omega)⟩ (by decide) rfl rfl (Nat.le_of_ble_eq_true rfl) (fun r σ' hp => ?_)
  obtain ⟨rfl, hC1, hF1⟩ := hp
  dsimp only [zRet]
  have hR1 := hR.sm hF1.sm
  refine gx_aload_n (i := 2) (pc := 1011) dL_law_1011 rfl rfl ?_
  refine gx_aload_n (i := 0) (pc := 1012) dL_law_1012 rfl rfl ?_
  refine gx_iload (pc := 1013) dL_law_1013 rfl ?_
  refine gx_iconst (nI 1) (pc := 1015) dL_law_1015 (by decide) ?_
  first | with_reducible refine gx_iaddN (pc := 1016) dL_law_1016 ?_ | refine gx_iadd (pc := 1016) dL_law_1016 ?_
  refine gl_sld (5 * j + 1) (pc := 1017) dL_law_1017 rfl (by omega) (by omega) ?_
  refine gx_callV ml_L_151 mt_X12_posts (pc := 1018) dL_law_1018 (c_X12_posts hR1) rfl rfl rfl (by decide) ⟨(by show cz ≤ 601024; omega), (by show sz ≤ 7293034; omega)⟩ (by decide) rfl rfl (Nat.le_of_ble_eq_true rfl) (fun r σ' hp => ?_)
  obtain ⟨rfl, hR2, hF2⟩ := hp
  dsimp only [zRet]
  have hC2 := hC1.hi hF2 (by simp)
  refine gx_icmp_eq 1492 (pc := 1021) dL_law_1021 (by decide) (fun h1021 => ?_) (fun h1021 => ?_)
  · exact hf _ _ _ _ _ _ _ _ _ _ _ _ _ hC2 hR2 hB.up (by omega) (by omega)
  · exact absurd rfl h1021

theorem case_rounds {E : zE} {b L j cz sz : Nat} {scr : Nat → Int32} {σ : zT} {tx : Nat × (Nat → Nat)} {bd : Nat × (Nat → Nat) × (Nat → Nat)} {sk : Nat × (Nat → Nat)} {tw : Nat × (Nat → Nat) × (Nat → Nat)} {xs : List Nat} {ld : Nat × (Nat → Nat)} {pa sh : Nat × (Nat → Nat → Nat)} {ru : Nat × (Nat → Nat) × (Nat → Nat)} {to : Nat × (Nat → Int64)} (hf : Fnl E b L scr j cz sz) (hg : Beg L j cz sz) (hC : ClsIs σ tx bd sk tw xs ld pa sh ru to) (hR : RefIs σ tx bd sk tw xs ld pa sh ru to) (hB : Bnd j ld.2 pa sh) : GL E b L scr cz sz σ 1026 (lvL E b j) [] := by
  obtain ⟨g1, g2, g3, g4⟩ := hg
  have hro : Roomy ld.2 := hB.ro (by omega)
  have hok : RowOK ld.1 ld.2 := hC.2.2.2.2.2.1.1
  have h12 : ld.1 ≤ 12 := hok.2.1
  have hV : VOK (vOf bd sk xs ld.1) := hR.env.vok hok
  refine gx_aload_n (i := 1) (pc := 1026) dL_law_1026 rfl rfl ?_
  refine gx_aload_n (i := 0) (pc := 1027) dL_law_1027 rfl rfl ?_
  refine gx_iload (pc := 1028) dL_law_1028 rfl ?_
  refine gx_iconst (nI 1) (pc := 1030) dL_law_1030 (by decide) ?_
  first | with_reducible refine gx_iaddN (pc := 1031) dL_law_1031 ?_ | refine gx_iadd (pc := 1031) dL_law_1031 ?_
  refine gl_sld (5 * j + 1) (pc := 1032) dL_law_1032 rfl (by omega) (by omega) ?_
  refine gx_aload_n (i := 0) (pc := 1033) dL_law_1033 rfl rfl ?_
  refine gx_iload (pc := 1034) dL_law_1034 rfl ?_
  refine gx_iconst (nI 2) (pc := 1036) dL_law_1036 (by decide) ?_
  first | with_reducible refine gx_iaddN (pc := 1037) dL_law_1037 ?_ | refine gx_iadd (pc := 1037) dL_law_1037 ?_
  refine gl_sld (5 * j + 2) (pc := 1038) dL_law_1038 rfl (by omega) (by omega) ?_
  refine gx_callV ml_L_152 mt_X11_rounds (pc := 1039) dL_law_1039 (c_X11_rounds hC) rfl rfl rfl (by decide) ⟨(by show cz ≤ 601024; omega), (by show sz ≤ 7293034; omega)⟩ (by decide) rfl rfl (Nat.le_of_ble_eq_true rfl) (fun r σ' hp => ?_)
  obtain ⟨rfl, hC1, hF1⟩ := hp
  dsimp only [zRet]
  have hR1 := hR.sm hF1.sm
  refine gx_aload_n (i := 2) (pc := 1042) dL_law_1042 rfl rfl ?_
  refine gx_aload_n (i := 0) (pc := 1043) dL_law_1043 rfl rfl ?_
  refine gx_iload (pc := 1044) dL_law_1044 rfl ?_
  refine gx_iconst (nI 1) (pc := 1046) dL_law_1046 (by decide) ?_
  first | with_reducible refine gx_iaddN (pc := 1047) dL_law_1047 ?_ | refine gx_iadd (pc := 1047) dL_law_1047 ?_
  refine gl_sld (5 * j + 1) (pc := 1048) dL_law_1048 rfl (by omega) (by omega) ?_
  refine gx_aload_n (i := 0) (pc := 1049) dL_law_1049 rfl rfl ?_
  refine gx_iload (pc := 1050) dL_law_1050 rfl ?_
  refine gx_iconst (nI 2) (pc := 1052) dL_law_1052 (by decide) ?_
  first | with_reducible refine gx_iaddN (pc := 1053) dL_law_1053 ?_ | refine gx_iadd (pc := 1053) dL_law_1053 ?_
  refine gl_sld (5 * j + 2) (pc := 1054) dL_law_1054 rfl (by omega) (by omega) ?_
  refine gx_callV ml_L_155 mt_X12_rounds (pc := 1055) dL_law_1055 (c_X12_rounds hR1) rfl rfl rfl (by decide) ⟨(by show cz ≤ 601024; omega), (by show sz ≤ 7293034; omega)⟩ (by decide) rfl rfl (Nat.le_of_ble_eq_true rfl) (fun r σ' hp => ?_)
  obtain ⟨rfl, hR2, hF2⟩ := hp
  dsimp only [zRet]
  have hC2 := hC1.hi hF2 (by simp)
  refine gx_icmp_eq 1492 (pc := 1058) dL_law_1058 (by decide) (fun h1058 => ?_) (fun h1058 => ?_)
  · exact hf _ _ _ _ _ _ _ _ _ _ _ _ _ hC2 hR2 hB.up (by omega) (by omega)
  · exact absurd rfl h1058

theorem case_reward {E : zE} {b L j cz sz : Nat} {scr : Nat → Int32} {σ : zT} {tx : Nat × (Nat → Nat)} {bd : Nat × (Nat → Nat) × (Nat → Nat)} {sk : Nat × (Nat → Nat)} {tw : Nat × (Nat → Nat) × (Nat → Nat)} {xs : List Nat} {ld : Nat × (Nat → Nat)} {pa sh : Nat × (Nat → Nat → Nat)} {ru : Nat × (Nat → Nat) × (Nat → Nat)} {to : Nat × (Nat → Int64)} (hf : Fnl E b L scr j cz sz) (hg : Beg L j cz sz) (hC : ClsIs σ tx bd sk tw xs ld pa sh ru to) (hR : RefIs σ tx bd sk tw xs ld pa sh ru to) (hB : Bnd j ld.2 pa sh) : GL E b L scr cz sz σ 1063 (lvL E b j) [] := by
  obtain ⟨g1, g2, g3, g4⟩ := hg
  have hro : Roomy ld.2 := hB.ro (by omega)
  have hok : RowOK ld.1 ld.2 := hC.2.2.2.2.2.1.1
  have h12 : ld.1 ≤ 12 := hok.2.1
  have hV : VOK (vOf bd sk xs ld.1) := hR.env.vok hok
  refine gx_aload_n (i := 1) (pc := 1063) dL_law_1063 rfl rfl ?_
  refine gx_aload_n (i := 0) (pc := 1064) dL_law_1064 rfl rfl ?_
  refine gx_iload (pc := 1065) dL_law_1065 rfl ?_
  refine gx_iconst (nI 1) (pc := 1067) dL_law_1067 (by decide) ?_
  first | with_reducible refine gx_iaddN (pc := 1068) dL_law_1068 ?_ | refine gx_iadd (pc := 1068) dL_law_1068 ?_
  refine gl_sld (5 * j + 1) (pc := 1069) dL_law_1069 rfl (by omega) (by omega) ?_
  refine gx_callV ml_L_156 mt_X11_reward (pc := 1070) dL_law_1070 (c_X11_reward hC) rfl rfl rfl (by decide) ⟨(by show cz ≤ 601024; omega), (by show sz ≤ 7293034; omega)⟩ (by decide) rfl rfl (Nat.le_of_ble_eq_true rfl) (fun r σ' hp => ?_)
  obtain ⟨rfl, hC1, hF1⟩ := hp
  dsimp only [zRet]
  have hR1 := hR.sm hF1.sm
  refine gx_aload_n (i := 2) (pc := 1073) dL_law_1073 rfl rfl ?_
  refine gx_aload_n (i := 0) (pc := 1074) dL_law_1074 rfl rfl ?_
  refine gx_iload (pc := 1075) dL_law_1075 rfl ?_
  refine gx_iconst (nI 1) (pc := 1077) dL_law_1077 (by decide) ?_
  first | with_reducible refine gx_iaddN (pc := 1078) dL_law_1078 ?_ | refine gx_iadd (pc := 1078) dL_law_1078 ?_
  refine gl_sld (5 * j + 1) (pc := 1079) dL_law_1079 rfl (by omega) (by omega) ?_
  refine gx_callV ml_L_159 mt_X12_reward (pc := 1080) dL_law_1080 (c_X12_reward hR1) rfl rfl rfl (by decide) ⟨(by show cz ≤ 601024; omega), (by show sz ≤ 7293034; omega)⟩ (by decide) rfl rfl (Nat.le_of_ble_eq_true rfl) (fun r σ' hp => ?_)
  obtain ⟨rfl, hR2, hF2⟩ := hp
  dsimp only [zRet]
  have hC2 := hC1.hi hF2 (by simp)
  refine gx_icmp_eq 1492 (pc := 1083) dL_law_1083 (by decide) (fun h1083 => ?_) (fun h1083 => ?_)
  · exact hf _ _ _ _ _ _ _ _ _ _ _ _ _ hC2 hR2 hB.up (by omega) (by omega)
  · exact absurd rfl h1083

theorem case_pays {E : zE} {b L j cz sz : Nat} {scr : Nat → Int32} {σ : zT} {tx : Nat × (Nat → Nat)} {bd : Nat × (Nat → Nat) × (Nat → Nat)} {sk : Nat × (Nat → Nat)} {tw : Nat × (Nat → Nat) × (Nat → Nat)} {xs : List Nat} {ld : Nat × (Nat → Nat)} {pa sh : Nat × (Nat → Nat → Nat)} {ru : Nat × (Nat → Nat) × (Nat → Nat)} {to : Nat × (Nat → Int64)} (hf : Fnl E b L scr j cz sz) (hg : Beg L j cz sz) (hC : ClsIs σ tx bd sk tw xs ld pa sh ru to) (hR : RefIs σ tx bd sk tw xs ld pa sh ru to) (hB : Bnd j ld.2 pa sh) : GL E b L scr cz sz σ 1088 (lvL E b j) [] := by
  obtain ⟨g1, g2, g3, g4⟩ := hg
  have hro : Roomy ld.2 := hB.ro (by omega)
  have hok : RowOK ld.1 ld.2 := hC.2.2.2.2.2.1.1
  have h12 : ld.1 ≤ 12 := hok.2.1
  have hV : VOK (vOf bd sk xs ld.1) := hR.env.vok hok
  refine gx_aload_n (i := 1) (pc := 1088) dL_law_1088 rfl rfl ?_
  refine gx_aload_n (i := 0) (pc := 1089) dL_law_1089 rfl rfl ?_
  refine gx_iload (pc := 1090) dL_law_1090 rfl ?_
  refine gx_iconst (nI 1) (pc := 1092) dL_law_1092 (by decide) ?_
  first | with_reducible refine gx_iaddN (pc := 1093) dL_law_1093 ?_ | refine gx_iadd (pc := 1093) dL_law_1093 ?_
  refine gl_sld (5 * j + 1) (pc := 1094) dL_law_1094 rfl (by omega) (by omega) ?_
  refine gx_callV ml_L_160 mt_X11_pays (pc := 1095) dL_law_1095 (c_X11_pays hC) rfl rfl rfl (by decide) ⟨(by show cz ≤ 601024; omega), (by show sz ≤ 7293034; omega)⟩ (by decide) rfl rfl (Nat.le_of_ble_eq_true rfl) (fun r σ' hp => ?_)
  obtain ⟨rfl, hC1, hF1⟩ := hp
  dsimp only [zRet]
  have hR1 := hR.sm hF1.sm
  refine gx_aload_n (i := 2) (pc := 1098) dL_law_1098 rfl rfl ?_
  refine gx_aload_n (i := 0) (pc := 1099) dL_law_1099 rfl rfl ?_
  refine gx_iload (pc := 1100) dL_law_1100 rfl ?_
  refine gx_iconst (nI 1) (pc := 1102) dL_law_1102 (by decide) ?_
  first | with_reducible refine gx_iaddN (pc := 1103) dL_law_1103 ?_ | refine gx_iadd (pc := 1103) dL_law_1103 ?_
  refine gl_sld (5 * j + 1) (pc := 1104) dL_law_1104 rfl (by omega) (by omega) ?_
  refine gx_callV ml_L_163 mt_X12_pays (pc := 1105) dL_law_1105 (c_X12_pays hR1 hro) rfl rfl rfl (by decide) ⟨(by show cz ≤ 601024; omega), (by show sz ≤ 7293034; omega)⟩ (by decide) rfl rfl (Nat.le_of_ble_eq_true rfl) (fun r σ' hp => ?_)
  obtain ⟨rfl, hR2, hF2⟩ := hp
  dsimp only [zRet]
  have hC2 := hC1.hi hF2 (by simp)
  refine gx_icmp_eq 1492 (pc := 1108) dL_law_1108 (by decide) (fun h1108 => ?_) (fun h1108 => ?_)
  · exact hf _ _ _ _ _ _ _ _ _ _ _ _ _ hC2 hR2 hB.up (by omega) (by omega)
  · exact absurd rfl h1108

theorem case_caught {E : zE} {b L j cz sz : Nat} {scr : Nat → Int32} {σ : zT} {tx : Nat × (Nat → Nat)} {bd : Nat × (Nat → Nat) × (Nat → Nat)} {sk : Nat × (Nat → Nat)} {tw : Nat × (Nat → Nat) × (Nat → Nat)} {xs : List Nat} {ld : Nat × (Nat → Nat)} {pa sh : Nat × (Nat → Nat → Nat)} {ru : Nat × (Nat → Nat) × (Nat → Nat)} {to : Nat × (Nat → Int64)} (hf : Fnl E b L scr j cz sz) (hg : Beg L j cz sz) (hC : ClsIs σ tx bd sk tw xs ld pa sh ru to) (hR : RefIs σ tx bd sk tw xs ld pa sh ru to) (hB : Bnd j ld.2 pa sh) : GL E b L scr cz sz σ 1113 (lvL E b j) [] := by
  obtain ⟨g1, g2, g3, g4⟩ := hg
  have hro : Roomy ld.2 := hB.ro (by omega)
  have hok : RowOK ld.1 ld.2 := hC.2.2.2.2.2.1.1
  have h12 : ld.1 ≤ 12 := hok.2.1
  have hV : VOK (vOf bd sk xs ld.1) := hR.env.vok hok
  refine gx_aload_n (i := 1) (pc := 1113) dL_law_1113 rfl rfl ?_
  refine gx_aload_n (i := 0) (pc := 1114) dL_law_1114 rfl rfl ?_
  refine gx_iload (pc := 1115) dL_law_1115 rfl ?_
  refine gx_iconst (nI 1) (pc := 1117) dL_law_1117 (by decide) ?_
  first | with_reducible refine gx_iaddN (pc := 1118) dL_law_1118 ?_ | refine gx_iadd (pc := 1118) dL_law_1118 ?_
  refine gl_sld (5 * j + 1) (pc := 1119) dL_law_1119 rfl (by omega) (by omega) ?_
  refine gx_aload_n (i := 0) (pc := 1120) dL_law_1120 rfl rfl ?_
  refine gx_iload (pc := 1121) dL_law_1121 rfl ?_
  refine gx_iconst (nI 2) (pc := 1123) dL_law_1123 (by decide) ?_
  first | with_reducible refine gx_iaddN (pc := 1124) dL_law_1124 ?_ | refine gx_iadd (pc := 1124) dL_law_1124 ?_
  refine gl_sld (5 * j + 2) (pc := 1125) dL_law_1125 rfl (by omega) (by omega) ?_
  refine gx_aload_n (i := 0) (pc := 1126) dL_law_1126 rfl rfl ?_
  refine gx_iload (pc := 1127) dL_law_1127 rfl ?_
  refine gx_iconst (nI 3) (pc := 1129) dL_law_1129 (by decide) ?_
  first | with_reducible refine gx_iaddN (pc := 1130) dL_law_1130 ?_ | refine gx_iadd (pc := 1130) dL_law_1130 ?_
  refine gl_sld (5 * j + 3) (pc := 1131) dL_law_1131 rfl (by omega) (by omega) ?_
  refine gx_callV ml_L_164 mt_X11_caught (pc := 1132) dL_law_1132 (c_X11_caught hC) rfl rfl rfl (by decide) ⟨(by show cz ≤ 601024; omega), (by show sz ≤ 7293034; omega)⟩ (by decide) rfl rfl (Nat.le_of_ble_eq_true rfl) (fun r σ' hp => ?_)
  obtain ⟨rfl, hC1, hF1⟩ := hp
  dsimp only [zRet]
  have hR1 := hR.sm hF1.sm
  refine gx_aload_n (i := 2) (pc := 1135) dL_law_1135 rfl rfl ?_
  refine gx_aload_n (i := 0) (pc := 1136) dL_law_1136 rfl rfl ?_
  refine gx_iload (pc := 1137) dL_law_1137 rfl ?_
  refine gx_iconst (nI 1) (pc := 1139) dL_law_1139 (by decide) ?_
  first | with_reducible refine gx_iaddN (pc := 1140) dL_law_1140 ?_ | refine gx_iadd (pc := 1140) dL_law_1140 ?_
  refine gl_sld (5 * j + 1) (pc := 1141) dL_law_1141 rfl (by omega) (by omega) ?_
  refine gx_aload_n (i := 0) (pc := 1142) dL_law_1142 rfl rfl ?_
  refine gx_iload (pc := 1143) dL_law_1143 rfl ?_
  refine gx_iconst (nI 2) (pc := 1145) dL_law_1145 (by decide) ?_
  first | with_reducible refine gx_iaddN (pc := 1146) dL_law_1146 ?_ | refine gx_iadd (pc := 1146) dL_law_1146 ?_
  refine gl_sld (5 * j + 2) (pc := 1147) dL_law_1147 rfl (by omega) (by omega) ?_
  refine gx_aload_n (i := 0) (pc := 1148) dL_law_1148 rfl rfl ?_
  refine gx_iload (pc := 1149) dL_law_1149 rfl ?_
  refine gx_iconst (nI 3) (pc := 1151) dL_law_1151 (by decide) ?_
  first | with_reducible refine gx_iaddN (pc := 1152) dL_law_1152 ?_ | refine gx_iadd (pc := 1152) dL_law_1152 ?_
  refine gl_sld (5 * j + 3) (pc := 1153) dL_law_1153 rfl (by omega) (by omega) ?_
  refine gx_callV ml_L_168 mt_X12_caught (pc := 1154) dL_law_1154 (c_X12_caught hR1) rfl rfl rfl (by decide) ⟨(by show cz ≤ 601024; omega), (by show sz ≤ 7293034; omega)⟩ (by decide) rfl rfl (Nat.le_of_ble_eq_true rfl) (fun r σ' hp => ?_)
  obtain ⟨rfl, hR2, hF2⟩ := hp
  dsimp only [zRet]
  have hC2 := hC1.hi hF2 (by simp)
  refine gx_icmp_eq 1492 (pc := 1157) dL_law_1157 (by decide) (fun h1157 => ?_) (fun h1157 => ?_)
  · exact hf _ _ _ _ _ _ _ _ _ _ _ _ _ hC2 hR2 hB.up (by omega) (by omega)
  · exact absurd rfl h1157

theorem case_lasts {E : zE} {b L j cz sz : Nat} {scr : Nat → Int32} {σ : zT} {tx : Nat × (Nat → Nat)} {bd : Nat × (Nat → Nat) × (Nat → Nat)} {sk : Nat × (Nat → Nat)} {tw : Nat × (Nat → Nat) × (Nat → Nat)} {xs : List Nat} {ld : Nat × (Nat → Nat)} {pa sh : Nat × (Nat → Nat → Nat)} {ru : Nat × (Nat → Nat) × (Nat → Nat)} {to : Nat × (Nat → Int64)} (hf : Fnl E b L scr j cz sz) (hg : Beg L j cz sz) (hC : ClsIs σ tx bd sk tw xs ld pa sh ru to) (hR : RefIs σ tx bd sk tw xs ld pa sh ru to) (hB : Bnd j ld.2 pa sh) : GL E b L scr cz sz σ 1162 (lvL E b j) [] := by
  obtain ⟨g1, g2, g3, g4⟩ := hg
  have hro : Roomy ld.2 := hB.ro (by omega)
  have hok : RowOK ld.1 ld.2 := hC.2.2.2.2.2.1.1
  have h12 : ld.1 ≤ 12 := hok.2.1
  have hV : VOK (vOf bd sk xs ld.1) := hR.env.vok hok
  refine gx_aload_n (i := 1) (pc := 1162) dL_law_1162 rfl rfl ?_
  refine gx_aload_n (i := 0) (pc := 1163) dL_law_1163 rfl rfl ?_
  refine gx_iload (pc := 1164) dL_law_1164 rfl ?_
  refine gx_iconst (nI 1) (pc := 1166) dL_law_1166 (by decide) ?_
  first | with_reducible refine gx_iaddN (pc := 1167) dL_law_1167 ?_ | refine gx_iadd (pc := 1167) dL_law_1167 ?_
  refine gl_sld (5 * j + 1) (pc := 1168) dL_law_1168 rfl (by omega) (by omega) ?_
  refine gx_aload_n (i := 0) (pc := 1169) dL_law_1169 rfl rfl ?_
  refine gx_iload (pc := 1170) dL_law_1170 rfl ?_
  refine gx_iconst (nI 2) (pc := 1172) dL_law_1172 (by decide) ?_
  first | with_reducible refine gx_iaddN (pc := 1173) dL_law_1173 ?_ | refine gx_iadd (pc := 1173) dL_law_1173 ?_
  refine gl_sld (5 * j + 2) (pc := 1174) dL_law_1174 rfl (by omega) (by omega) ?_
  refine gx_callV ml_L_169 mt_X11_lasts (pc := 1175) dL_law_1175 (c_X11_lasts) rfl rfl rfl (by decide) ⟨(by show cz ≤ 601024; omega), (by show sz ≤ 7293034; omega)⟩ (by decide) rfl rfl (Nat.le_of_ble_eq_true rfl) (fun r σ' hp => ?_)
  obtain ⟨rfl, hσ⟩ := hp
  subst hσ
  dsimp only [zRet]
  have hC1 := hC
  have hR1 := hR
  refine gx_aload_n (i := 2) (pc := 1178) dL_law_1178 rfl rfl ?_
  refine gx_aload_n (i := 0) (pc := 1179) dL_law_1179 rfl rfl ?_
  refine gx_iload (pc := 1180) dL_law_1180 rfl ?_
  refine gx_iconst (nI 1) (pc := 1182) dL_law_1182 (by decide) ?_
  first | with_reducible refine gx_iaddN (pc := 1183) dL_law_1183 ?_ | refine gx_iadd (pc := 1183) dL_law_1183 ?_
  refine gl_sld (5 * j + 1) (pc := 1184) dL_law_1184 rfl (by omega) (by omega) ?_
  refine gx_aload_n (i := 0) (pc := 1185) dL_law_1185 rfl rfl ?_
  refine gx_iload (pc := 1186) dL_law_1186 rfl ?_
  refine gx_iconst (nI 2) (pc := 1188) dL_law_1188 (by decide) ?_
  first | with_reducible refine gx_iaddN (pc := 1189) dL_law_1189 ?_ | refine gx_iadd (pc := 1189) dL_law_1189 ?_
  refine gl_sld (5 * j + 2) (pc := 1190) dL_law_1190 rfl (by omega) (by omega) ?_
  refine gx_callV ml_L_172 mt_X12_lasts (pc := 1191) dL_law_1191 (c_X12_lasts hR1) rfl rfl rfl (by decide) ⟨(by show cz ≤ 601024; omega), (by show sz ≤ 7293034; omega)⟩ (by decide) rfl rfl (Nat.le_of_ble_eq_true rfl) (fun r σ' hp => ?_)
  obtain ⟨rfl, hR2, hF2⟩ := hp
  dsimp only [zRet]
  have hC2 := hC1.hi hF2 (by simp)
  refine gx_icmp_eq 1492 (pc := 1194) dL_law_1194 (by decide) (fun h1194 => ?_) (fun h1194 => ?_)
  · exact hf _ _ _ _ _ _ _ _ _ _ _ _ _ hC2 hR2 hB.up (by omega) (by omega)
  · exact absurd rfl h1194

theorem case_heard {E : zE} {b L j cz sz : Nat} {scr : Nat → Int32} {σ : zT} {tx : Nat × (Nat → Nat)} {bd : Nat × (Nat → Nat) × (Nat → Nat)} {sk : Nat × (Nat → Nat)} {tw : Nat × (Nat → Nat) × (Nat → Nat)} {xs : List Nat} {ld : Nat × (Nat → Nat)} {pa sh : Nat × (Nat → Nat → Nat)} {ru : Nat × (Nat → Nat) × (Nat → Nat)} {to : Nat × (Nat → Int64)} (hf : Fnl E b L scr j cz sz) (hg : Beg L j cz sz) (hC : ClsIs σ tx bd sk tw xs ld pa sh ru to) (hR : RefIs σ tx bd sk tw xs ld pa sh ru to) (hB : Bnd j ld.2 pa sh) : GL E b L scr cz sz σ 1199 (lvL E b j) [] := by
  obtain ⟨g1, g2, g3, g4⟩ := hg
  have hro : Roomy ld.2 := hB.ro (by omega)
  have hok : RowOK ld.1 ld.2 := hC.2.2.2.2.2.1.1
  have h12 : ld.1 ≤ 12 := hok.2.1
  have hV : VOK (vOf bd sk xs ld.1) := hR.env.vok hok
  refine gx_aload_n (i := 1) (pc := 1199) dL_law_1199 rfl rfl ?_
  refine gx_aload_n (i := 0) (pc := 1200) dL_law_1200 rfl rfl ?_
  refine gx_iload (pc := 1201) dL_law_1201 rfl ?_
  refine gx_iconst (nI 1) (pc := 1203) dL_law_1203 (by decide) ?_
  first | with_reducible refine gx_iaddN (pc := 1204) dL_law_1204 ?_ | refine gx_iadd (pc := 1204) dL_law_1204 ?_
  refine gl_sld (5 * j + 1) (pc := 1205) dL_law_1205 rfl (by omega) (by omega) ?_
  refine gx_aload_n (i := 0) (pc := 1206) dL_law_1206 rfl rfl ?_
  refine gx_iload (pc := 1207) dL_law_1207 rfl ?_
  refine gx_iconst (nI 2) (pc := 1209) dL_law_1209 (by decide) ?_
  first | with_reducible refine gx_iaddN (pc := 1210) dL_law_1210 ?_ | refine gx_iadd (pc := 1210) dL_law_1210 ?_
  refine gl_sld (5 * j + 2) (pc := 1211) dL_law_1211 rfl (by omega) (by omega) ?_
  refine gx_callV ml_L_173 mt_X11_heard (pc := 1212) dL_law_1212 (c_X11_heard hC) rfl rfl rfl (by decide) ⟨(by show cz ≤ 601024; omega), (by show sz ≤ 7293034; omega)⟩ (by decide) rfl rfl (Nat.le_of_ble_eq_true rfl) (fun r σ' hp => ?_)
  obtain ⟨rfl, hC1, hF1⟩ := hp
  dsimp only [zRet]
  have hR1 := hR.sm hF1.sm
  refine gx_aload_n (i := 2) (pc := 1215) dL_law_1215 rfl rfl ?_
  refine gx_aload_n (i := 0) (pc := 1216) dL_law_1216 rfl rfl ?_
  refine gx_iload (pc := 1217) dL_law_1217 rfl ?_
  refine gx_iconst (nI 1) (pc := 1219) dL_law_1219 (by decide) ?_
  first | with_reducible refine gx_iaddN (pc := 1220) dL_law_1220 ?_ | refine gx_iadd (pc := 1220) dL_law_1220 ?_
  refine gl_sld (5 * j + 1) (pc := 1221) dL_law_1221 rfl (by omega) (by omega) ?_
  refine gx_aload_n (i := 0) (pc := 1222) dL_law_1222 rfl rfl ?_
  refine gx_iload (pc := 1223) dL_law_1223 rfl ?_
  refine gx_iconst (nI 2) (pc := 1225) dL_law_1225 (by decide) ?_
  first | with_reducible refine gx_iaddN (pc := 1226) dL_law_1226 ?_ | refine gx_iadd (pc := 1226) dL_law_1226 ?_
  refine gl_sld (5 * j + 2) (pc := 1227) dL_law_1227 rfl (by omega) (by omega) ?_
  refine gx_callV ml_L_176 mt_X12_heard (pc := 1228) dL_law_1228 (c_X12_heard hR1) rfl rfl rfl (by decide) ⟨(by show cz ≤ 601024; omega), (by show sz ≤ 7293034; omega)⟩ (by decide) rfl rfl (Nat.le_of_ble_eq_true rfl) (fun r σ' hp => ?_)
  obtain ⟨rfl, hR2, hF2⟩ := hp
  dsimp only [zRet]
  have hC2 := hC1.hi hF2 (by simp)
  refine gx_icmp_eq 1492 (pc := 1231) dL_law_1231 (by decide) (fun h1231 => ?_) (fun h1231 => ?_)
  · exact hf _ _ _ _ _ _ _ _ _ _ _ _ _ hC2 hR2 hB.up (by omega) (by omega)
  · exact absurd rfl h1231

theorem case_forget {E : zE} {b L j cz sz : Nat} {scr : Nat → Int32} {σ : zT} {tx : Nat × (Nat → Nat)} {bd : Nat × (Nat → Nat) × (Nat → Nat)} {sk : Nat × (Nat → Nat)} {tw : Nat × (Nat → Nat) × (Nat → Nat)} {xs : List Nat} {ld : Nat × (Nat → Nat)} {pa sh : Nat × (Nat → Nat → Nat)} {ru : Nat × (Nat → Nat) × (Nat → Nat)} {to : Nat × (Nat → Int64)} (hf : Fnl E b L scr j cz sz) (hg : Beg L j cz sz) (hC : ClsIs σ tx bd sk tw xs ld pa sh ru to) (hR : RefIs σ tx bd sk tw xs ld pa sh ru to) (hB : Bnd j ld.2 pa sh) : GL E b L scr cz sz σ 1236 (lvL E b j) [] := by
  obtain ⟨g1, g2, g3, g4⟩ := hg
  have hro : Roomy ld.2 := hB.ro (by omega)
  have hok : RowOK ld.1 ld.2 := hC.2.2.2.2.2.1.1
  have h12 : ld.1 ≤ 12 := hok.2.1
  have hV : VOK (vOf bd sk xs ld.1) := hR.env.vok hok
  refine gx_aload_n (i := 1) (pc := 1236) dL_law_1236 rfl rfl ?_
  refine gx_callV ml_L_177 mt_X11_forget (pc := 1237) dL_law_1237 (c_X11_forget hC) rfl rfl rfl (by decide) ⟨(by show cz ≤ 601024; omega), (by show sz ≤ 7293034; omega)⟩ (by decide) rfl rfl (Nat.le_of_ble_eq_true rfl) (fun r σ' hp => ?_)
  obtain ⟨rfl, hC1, hF1⟩ := hp
  dsimp only [zRet]
  have hR1 := hR.sm hF1.sm
  refine gx_aload_n (i := 2) (pc := 1240) dL_law_1240 rfl rfl ?_
  refine gx_callV ml_L_180 mt_X12_forget (pc := 1241) dL_law_1241 (c_X12_forget hR1) rfl rfl rfl (by decide) ⟨(by show cz ≤ 601024; omega), (by show sz ≤ 7293034; omega)⟩ (by decide) rfl rfl (Nat.le_of_ble_eq_true rfl) (fun r σ' hp => ?_)
  obtain ⟨rfl, hR2, hF2⟩ := hp
  dsimp only [zRet]
  have hC2 := hC1.hi hF2 (by simp)
  refine gx_icmp_eq 1492 (pc := 1244) dL_law_1244 (by decide) (fun h1244 => ?_) (fun h1244 => ?_)
  · exact hf _ _ _ _ _ _ _ _ _ _ _ _ _ hC2 hR2 hB.up (by omega) (by omega)
  · exact absurd rfl h1244

theorem case_fits {E : zE} {b L j cz sz : Nat} {scr : Nat → Int32} {σ : zT} {tx : Nat × (Nat → Nat)} {bd : Nat × (Nat → Nat) × (Nat → Nat)} {sk : Nat × (Nat → Nat)} {tw : Nat × (Nat → Nat) × (Nat → Nat)} {xs : List Nat} {ld : Nat × (Nat → Nat)} {pa sh : Nat × (Nat → Nat → Nat)} {ru : Nat × (Nat → Nat) × (Nat → Nat)} {to : Nat × (Nat → Int64)} (hf : Fnl E b L scr j cz sz) (hg : Beg L j cz sz) (hC : ClsIs σ tx bd sk tw xs ld pa sh ru to) (hR : RefIs σ tx bd sk tw xs ld pa sh ru to) (hB : Bnd j ld.2 pa sh) : GL E b L scr cz sz σ 1249 (lvL E b j) [] := by
  obtain ⟨g1, g2, g3, g4⟩ := hg
  have hro : Roomy ld.2 := hB.ro (by omega)
  have hok : RowOK ld.1 ld.2 := hC.2.2.2.2.2.1.1
  have h12 : ld.1 ≤ 12 := hok.2.1
  have hV : VOK (vOf bd sk xs ld.1) := hR.env.vok hok
  refine gx_aload_n (i := 1) (pc := 1249) dL_law_1249 rfl rfl ?_
  refine gx_callV ml_L_181 mt_X11_fits (pc := 1250) dL_law_1250 (c_X11_fits hC) rfl rfl rfl (by decide) ⟨(by show cz ≤ 601024; omega), (by show sz ≤ 7293034; omega)⟩ (by decide) rfl rfl (Nat.le_of_ble_eq_true rfl) (fun r σ' hp => ?_)
  obtain ⟨rfl, hC1, hF1⟩ := hp
  dsimp only [zRet]
  have hR1 := hR.sm hF1.sm
  refine gx_aload_n (i := 2) (pc := 1253) dL_law_1253 rfl rfl ?_
  refine gx_callV ml_L_184 mt_X12_fits (pc := 1254) dL_law_1254 (c_X12_fits hR1) rfl rfl rfl (by decide) ⟨(by show cz ≤ 601024; omega), (by show sz ≤ 7293034; omega)⟩ (by decide) rfl rfl (Nat.le_of_ble_eq_true rfl) (fun r σ' hp => ?_)
  obtain ⟨rfl, hR2, hF2⟩ := hp
  dsimp only [zRet]
  have hC2 := hC1.hi hF2 (by simp)
  refine gx_icmp_eq 1492 (pc := 1257) dL_law_1257 (by decide) (fun h1257 => ?_) (fun h1257 => ?_)
  · exact hf _ _ _ _ _ _ _ _ _ _ _ _ _ hC2 hR2 hB.up (by omega) (by omega)
  · exact absurd rfl h1257

theorem case_ask {E : zE} {b L j cz sz : Nat} {scr : Nat → Int32} {σ : zT} {tx : Nat × (Nat → Nat)} {bd : Nat × (Nat → Nat) × (Nat → Nat)} {sk : Nat × (Nat → Nat)} {tw : Nat × (Nat → Nat) × (Nat → Nat)} {xs : List Nat} {ld : Nat × (Nat → Nat)} {pa sh : Nat × (Nat → Nat → Nat)} {ru : Nat × (Nat → Nat) × (Nat → Nat)} {to : Nat × (Nat → Int64)} (hf : Fnl E b L scr j cz sz) (hg : Beg L j cz sz) (hC : ClsIs σ tx bd sk tw xs ld pa sh ru to) (hR : RefIs σ tx bd sk tw xs ld pa sh ru to) (hB : Bnd j ld.2 pa sh) : GL E b L scr cz sz σ 1262 (lvL E b j) [] := by
  obtain ⟨g1, g2, g3, g4⟩ := hg
  have hro : Roomy ld.2 := hB.ro (by omega)
  have hok : RowOK ld.1 ld.2 := hC.2.2.2.2.2.1.1
  have h12 : ld.1 ≤ 12 := hok.2.1
  have hV : VOK (vOf bd sk xs ld.1) := hR.env.vok hok
  refine gx_aload_n (i := 1) (pc := 1262) dL_law_1262 rfl rfl ?_
  refine gx_callV ml_L_185 mt_X11_ask (pc := 1263) dL_law_1263 (c_X11_ask hC) rfl rfl rfl (by decide) ⟨(by show cz ≤ 601024; omega), (by show sz ≤ 7293034; omega)⟩ (by decide) rfl rfl (Nat.le_of_ble_eq_true rfl) (fun r σ' hp => ?_)
  obtain ⟨rfl, hC1, hF1⟩ := hp
  dsimp only [zRet]
  have hR1 := hR.sm hF1.sm
  refine gx_aload_n (i := 2) (pc := 1266) dL_law_1266 rfl rfl ?_
  refine gx_callV ml_L_188 mt_X12_ask (pc := 1267) dL_law_1267 (c_X12_ask hR1) rfl rfl rfl (by decide) ⟨(by show cz ≤ 601024; omega), (by show sz ≤ 7293034; omega)⟩ (by decide) rfl rfl (Nat.le_of_ble_eq_true rfl) (fun r σ' hp => ?_)
  obtain ⟨rfl, hR2, hF2⟩ := hp
  dsimp only [zRet]
  have hC2 := hC1.hi hF2 (by simp)
  refine gx_icmp_eq 1492 (pc := 1270) dL_law_1270 (by decide) (fun h1270 => ?_) (fun h1270 => ?_)
  · exact hf _ _ _ _ _ _ _ _ _ _ _ _ _ hC2 hR2 hB.up (by omega) (by omega)
  · exact absurd rfl h1270

theorem case_law {E : zE} {b L j cz sz : Nat} {scr : Nat → Int32} {σ : zT} {tx : Nat × (Nat → Nat)} {bd : Nat × (Nat → Nat) × (Nat → Nat)} {sk : Nat × (Nat → Nat)} {tw : Nat × (Nat → Nat) × (Nat → Nat)} {xs : List Nat} {ld : Nat × (Nat → Nat)} {pa sh : Nat × (Nat → Nat → Nat)} {ru : Nat × (Nat → Nat) × (Nat → Nat)} {to : Nat × (Nat → Int64)} (hf : Fnl E b L scr j cz sz) (hg : Beg L j cz sz) (hC : ClsIs σ tx bd sk tw xs ld pa sh ru to) (hR : RefIs σ tx bd sk tw xs ld pa sh ru to) (hB : Bnd j ld.2 pa sh) : GL E b L scr cz sz σ 1275 (lvL E b j) [] := by
  obtain ⟨g1, g2, g3, g4⟩ := hg
  have hro : Roomy ld.2 := hB.ro (by omega)
  have hok : RowOK ld.1 ld.2 := hC.2.2.2.2.2.1.1
  have h12 : ld.1 ≤ 12 := hok.2.1
  have hV : VOK (vOf bd sk xs ld.1) := hR.env.vok hok
  refine gx_aload_n (i := 1) (pc := 1275) dL_law_1275 rfl rfl ?_
  refine gx_callV ml_L_189 mt_X11_law (pc := 1276) dL_law_1276 (c_X11_law hC hro) rfl rfl rfl (by decide) ⟨(by show cz ≤ 601024; omega), (by show sz ≤ 7293034; omega)⟩ (by decide) rfl rfl (Nat.le_of_ble_eq_true rfl) (fun r σ' hp => ?_)
  obtain ⟨rfl, hC1, hF1⟩ := hp
  dsimp only [zRet]
  have hR1 := hR.sm hF1.sm
  refine gx_aload_n (i := 2) (pc := 1279) dL_law_1279 rfl rfl ?_
  refine gx_callV ml_L_192 mt_X12_law (pc := 1280) dL_law_1280 (c_X12_law hR1 hro) rfl rfl rfl (by decide) ⟨(by show cz ≤ 601024; omega), (by show sz ≤ 7293034; omega)⟩ (by decide) rfl rfl (Nat.le_of_ble_eq_true rfl) (fun r σ' hp => ?_)
  obtain ⟨rfl, hR2, hF2⟩ := hp
  dsimp only [zRet]
  have hC2 := hC1.hi hF2 (by simp)
  refine gx_icmp_eq 1492 (pc := 1283) dL_law_1283 (by decide) (fun h1283 => ?_) (fun h1283 => ?_)
  · exact hf _ _ _ _ _ _ _ _ _ _ _ _ _ hC2 hR2 hB.up (by omega) (by omega)
  · exact absurd rfl h1283

theorem case_rests {E : zE} {b L j cz sz : Nat} {scr : Nat → Int32} {σ : zT} {tx : Nat × (Nat → Nat)} {bd : Nat × (Nat → Nat) × (Nat → Nat)} {sk : Nat × (Nat → Nat)} {tw : Nat × (Nat → Nat) × (Nat → Nat)} {xs : List Nat} {ld : Nat × (Nat → Nat)} {pa sh : Nat × (Nat → Nat → Nat)} {ru : Nat × (Nat → Nat) × (Nat → Nat)} {to : Nat × (Nat → Int64)} (hf : Fnl E b L scr j cz sz) (hg : Beg L j cz sz) (hC : ClsIs σ tx bd sk tw xs ld pa sh ru to) (hR : RefIs σ tx bd sk tw xs ld pa sh ru to) (hB : Bnd j ld.2 pa sh) : GL E b L scr cz sz σ 1288 (lvL E b j) [] := by
  obtain ⟨g1, g2, g3, g4⟩ := hg
  have hro : Roomy ld.2 := hB.ro (by omega)
  have hok : RowOK ld.1 ld.2 := hC.2.2.2.2.2.1.1
  have h12 : ld.1 ≤ 12 := hok.2.1
  have hV : VOK (vOf bd sk xs ld.1) := hR.env.vok hok
  refine gx_aload_n (i := 1) (pc := 1288) dL_law_1288 rfl rfl ?_
  refine gx_aload_n (i := 0) (pc := 1289) dL_law_1289 rfl rfl ?_
  refine gx_iload (pc := 1290) dL_law_1290 rfl ?_
  refine gx_iconst (nI 1) (pc := 1292) dL_law_1292 (by decide) ?_
  first | with_reducible refine gx_iaddN (pc := 1293) dL_law_1293 ?_ | refine gx_iadd (pc := 1293) dL_law_1293 ?_
  refine gl_sld (5 * j + 1) (pc := 1294) dL_law_1294 rfl (by omega) (by omega) ?_
  refine gx_aload_n (i := 0) (pc := 1295) dL_law_1295 rfl rfl ?_
  refine gx_iload (pc := 1296) dL_law_1296 rfl ?_
  refine gx_iconst (nI 2) (pc := 1298) dL_law_1298 (by decide) ?_
  first | with_reducible refine gx_iaddN (pc := 1299) dL_law_1299 ?_ | refine gx_iadd (pc := 1299) dL_law_1299 ?_
  refine gl_sld (5 * j + 2) (pc := 1300) dL_law_1300 rfl (by omega) (by omega) ?_
  refine gx_callV ml_L_193 mt_X11_rests (pc := 1301) dL_law_1301 (c_X11_rests hC) rfl rfl rfl (by decide) ⟨(by show cz ≤ 601024; omega), (by show sz ≤ 7293034; omega)⟩ (by decide) rfl rfl (Nat.le_of_ble_eq_true rfl) (fun r σ' hp => ?_)
  obtain ⟨rfl, hC1, hF1⟩ := hp
  dsimp only [zRet]
  have hR1 := hR.sm hF1.sm
  refine gx_aload_n (i := 2) (pc := 1304) dL_law_1304 rfl rfl ?_
  refine gx_aload_n (i := 0) (pc := 1305) dL_law_1305 rfl rfl ?_
  refine gx_iload (pc := 1306) dL_law_1306 rfl ?_
  refine gx_iconst (nI 1) (pc := 1308) dL_law_1308 (by decide) ?_
  first | with_reducible refine gx_iaddN (pc := 1309) dL_law_1309 ?_ | refine gx_iadd (pc := 1309) dL_law_1309 ?_
  refine gl_sld (5 * j + 1) (pc := 1310) dL_law_1310 rfl (by omega) (by omega) ?_
  refine gx_aload_n (i := 0) (pc := 1311) dL_law_1311 rfl rfl ?_
  refine gx_iload (pc := 1312) dL_law_1312 rfl ?_
  refine gx_iconst (nI 2) (pc := 1314) dL_law_1314 (by decide) ?_
  first | with_reducible refine gx_iaddN (pc := 1315) dL_law_1315 ?_ | refine gx_iadd (pc := 1315) dL_law_1315 ?_
  refine gl_sld (5 * j + 2) (pc := 1316) dL_law_1316 rfl (by omega) (by omega) ?_
  refine gx_callV ml_L_196 mt_X12_rests (pc := 1317) dL_law_1317 (c_X12_rests hR1) rfl rfl rfl (by decide) ⟨(by show cz ≤ 601024; omega), (by show sz ≤ 7293034; omega)⟩ (by decide) rfl rfl (Nat.le_of_ble_eq_true rfl) (fun r σ' hp => ?_)
  obtain ⟨rfl, hR2, hF2⟩ := hp
  dsimp only [zRet]
  have hC2 := hC1.hi hF2 (by simp)
  refine gx_icmp_eq 1492 (pc := 1320) dL_law_1320 (by decide) (fun h1320 => ?_) (fun h1320 => ?_)
  · exact hf _ _ _ _ _ _ _ _ _ _ _ _ _ hC2 hR2 hB.up (by omega) (by omega)
  · exact absurd rfl h1320

theorem case_years {E : zE} {b L j cz sz : Nat} {scr : Nat → Int32} {σ : zT} {tx : Nat × (Nat → Nat)} {bd : Nat × (Nat → Nat) × (Nat → Nat)} {sk : Nat × (Nat → Nat)} {tw : Nat × (Nat → Nat) × (Nat → Nat)} {xs : List Nat} {ld : Nat × (Nat → Nat)} {pa sh : Nat × (Nat → Nat → Nat)} {ru : Nat × (Nat → Nat) × (Nat → Nat)} {to : Nat × (Nat → Int64)} (hf : Fnl E b L scr j cz sz) (hg : Beg L j cz sz) (hC : ClsIs σ tx bd sk tw xs ld pa sh ru to) (hR : RefIs σ tx bd sk tw xs ld pa sh ru to) (hB : Bnd j ld.2 pa sh) : GL E b L scr cz sz σ 1325 (lvL E b j) [] := by
  obtain ⟨g1, g2, g3, g4⟩ := hg
  have hro : Roomy ld.2 := hB.ro (by omega)
  have hok : RowOK ld.1 ld.2 := hC.2.2.2.2.2.1.1
  have h12 : ld.1 ≤ 12 := hok.2.1
  have hV : VOK (vOf bd sk xs ld.1) := hR.env.vok hok
  refine gx_aload_n (i := 1) (pc := 1325) dL_law_1325 rfl rfl ?_
  refine gx_aload_n (i := 0) (pc := 1326) dL_law_1326 rfl rfl ?_
  refine gx_iload (pc := 1327) dL_law_1327 rfl ?_
  refine gx_iconst (nI 1) (pc := 1329) dL_law_1329 (by decide) ?_
  first | with_reducible refine gx_iaddN (pc := 1330) dL_law_1330 ?_ | refine gx_iadd (pc := 1330) dL_law_1330 ?_
  refine gl_sld (5 * j + 1) (pc := 1331) dL_law_1331 rfl (by omega) (by omega) ?_
  refine gx_aload_n (i := 0) (pc := 1332) dL_law_1332 rfl rfl ?_
  refine gx_iload (pc := 1333) dL_law_1333 rfl ?_
  refine gx_iconst (nI 2) (pc := 1335) dL_law_1335 (by decide) ?_
  first | with_reducible refine gx_iaddN (pc := 1336) dL_law_1336 ?_ | refine gx_iadd (pc := 1336) dL_law_1336 ?_
  refine gl_sld (5 * j + 2) (pc := 1337) dL_law_1337 rfl (by omega) (by omega) ?_
  refine gx_callV ml_L_197 mt_X11_years (pc := 1338) dL_law_1338 (c_X11_years hC hro) rfl rfl rfl (by decide) ⟨(by show cz ≤ 601024; omega), (by show sz ≤ 7293034; omega)⟩ (by decide) rfl rfl (Nat.le_of_ble_eq_true rfl) (fun r σ' hp => ?_)
  obtain ⟨rfl, hC1, hF1⟩ := hp
  dsimp only [zRet]
  have hR1 := hR.sm hF1.sm
  refine gx_aload_n (i := 2) (pc := 1341) dL_law_1341 rfl rfl ?_
  refine gx_aload_n (i := 0) (pc := 1342) dL_law_1342 rfl rfl ?_
  refine gx_iload (pc := 1343) dL_law_1343 rfl ?_
  refine gx_iconst (nI 1) (pc := 1345) dL_law_1345 (by decide) ?_
  first | with_reducible refine gx_iaddN (pc := 1346) dL_law_1346 ?_ | refine gx_iadd (pc := 1346) dL_law_1346 ?_
  refine gl_sld (5 * j + 1) (pc := 1347) dL_law_1347 rfl (by omega) (by omega) ?_
  refine gx_aload_n (i := 0) (pc := 1348) dL_law_1348 rfl rfl ?_
  refine gx_iload (pc := 1349) dL_law_1349 rfl ?_
  refine gx_iconst (nI 2) (pc := 1351) dL_law_1351 (by decide) ?_
  first | with_reducible refine gx_iaddN (pc := 1352) dL_law_1352 ?_ | refine gx_iadd (pc := 1352) dL_law_1352 ?_
  refine gl_sld (5 * j + 2) (pc := 1353) dL_law_1353 rfl (by omega) (by omega) ?_
  refine gx_callV ml_L_200 mt_X12_years (pc := 1354) dL_law_1354 (c_X12_years hR1 hro) rfl rfl rfl (by decide) ⟨(by show cz ≤ 601024; omega), (by show sz ≤ 7293034; omega)⟩ (by decide) rfl rfl (Nat.le_of_ble_eq_true rfl) (fun r σ' hp => ?_)
  obtain ⟨rfl, hR2, hF2⟩ := hp
  dsimp only [zRet]
  have hC2 := hC1.hi hF2 (by simp)
  refine gx_icmp_eq 1492 (pc := 1357) dL_law_1357 (by decide) (fun h1357 => ?_) (fun h1357 => ?_)
  · exact hf _ _ _ _ _ _ _ _ _ _ _ _ _ hC2 hR2 hB.up (by omega) (by omega)
  · exact absurd rfl h1357

theorem case_keep {E : zE} {b L j cz sz : Nat} {scr : Nat → Int32} {σ : zT} {tx : Nat × (Nat → Nat)} {bd : Nat × (Nat → Nat) × (Nat → Nat)} {sk : Nat × (Nat → Nat)} {tw : Nat × (Nat → Nat) × (Nat → Nat)} {xs : List Nat} {ld : Nat × (Nat → Nat)} {pa sh : Nat × (Nat → Nat → Nat)} {ru : Nat × (Nat → Nat) × (Nat → Nat)} {to : Nat × (Nat → Int64)} (hf : Fnl E b L scr j cz sz) (hg : Beg L j cz sz) (hC : ClsIs σ tx bd sk tw xs ld pa sh ru to) (hR : RefIs σ tx bd sk tw xs ld pa sh ru to) (hB : Bnd j ld.2 pa sh) : GL E b L scr cz sz σ 1362 (lvL E b j) [] := by
  obtain ⟨g1, g2, g3, g4⟩ := hg
  have hro : Roomy ld.2 := hB.ro (by omega)
  have hok : RowOK ld.1 ld.2 := hC.2.2.2.2.2.1.1
  have h12 : ld.1 ≤ 12 := hok.2.1
  have hV : VOK (vOf bd sk xs ld.1) := hR.env.vok hok
  refine gx_aload_n (i := 1) (pc := 1362) dL_law_1362 rfl rfl ?_
  refine gx_aload_n (i := 0) (pc := 1363) dL_law_1363 rfl rfl ?_
  refine gx_iload (pc := 1364) dL_law_1364 rfl ?_
  refine gx_iconst (nI 1) (pc := 1366) dL_law_1366 (by decide) ?_
  first | with_reducible refine gx_iaddN (pc := 1367) dL_law_1367 ?_ | refine gx_iadd (pc := 1367) dL_law_1367 ?_
  refine gl_sld (5 * j + 1) (pc := 1368) dL_law_1368 rfl (by omega) (by omega) ?_
  refine gx_callV ml_L_201 mt_X11_keep (pc := 1369) dL_law_1369 (c_X11_keep hC) rfl rfl rfl (by decide) ⟨(by show cz ≤ 601024; omega), (by show sz ≤ 7293034; omega)⟩ (by decide) rfl rfl (Nat.le_of_ble_eq_true rfl) (fun r σ' hp => ?_)
  obtain ⟨rfl, hC1, hF1⟩ := hp
  dsimp only [zRet]
  have hR1 := hR.sm hF1.sm
  refine gx_aload_n (i := 2) (pc := 1372) dL_law_1372 rfl rfl ?_
  refine gx_aload_n (i := 0) (pc := 1373) dL_law_1373 rfl rfl ?_
  refine gx_iload (pc := 1374) dL_law_1374 rfl ?_
  refine gx_iconst (nI 1) (pc := 1376) dL_law_1376 (by decide) ?_
  first | with_reducible refine gx_iaddN (pc := 1377) dL_law_1377 ?_ | refine gx_iadd (pc := 1377) dL_law_1377 ?_
  refine gl_sld (5 * j + 1) (pc := 1378) dL_law_1378 rfl (by omega) (by omega) ?_
  refine gx_callV ml_L_204 mt_X12_keep (pc := 1379) dL_law_1379 (c_X12_keep hR1) rfl rfl rfl (by decide) ⟨(by show cz ≤ 601024; omega), (by show sz ≤ 7293034; omega)⟩ (by decide) rfl rfl (Nat.le_of_ble_eq_true rfl) (fun r σ' hp => ?_)
  obtain ⟨rfl, hR2, hF2⟩ := hp
  dsimp only [zRet]
  have hC2 := hC1.hi hF2 (by simp)
  refine gx_icmp_eq 1492 (pc := 1382) dL_law_1382 (by decide) (fun h1382 => ?_) (fun h1382 => ?_)
  · exact hf _ _ _ _ _ _ _ _ _ _ _ _ _ hC2 hR2 hB.keep (by omega) (by omega)
  · exact absurd rfl h1382

theorem case_again {E : zE} {b L j cz sz : Nat} {scr : Nat → Int32} {σ : zT} {tx : Nat × (Nat → Nat)} {bd : Nat × (Nat → Nat) × (Nat → Nat)} {sk : Nat × (Nat → Nat)} {tw : Nat × (Nat → Nat) × (Nat → Nat)} {xs : List Nat} {ld : Nat × (Nat → Nat)} {pa sh : Nat × (Nat → Nat → Nat)} {ru : Nat × (Nat → Nat) × (Nat → Nat)} {to : Nat × (Nat → Int64)} (hf : Fnl E b L scr j cz sz) (hg : Beg L j cz sz) (hC : ClsIs σ tx bd sk tw xs ld pa sh ru to) (hR : RefIs σ tx bd sk tw xs ld pa sh ru to) (hB : Bnd j ld.2 pa sh) : GL E b L scr cz sz σ 1387 (lvL E b j) [] := by
  obtain ⟨g1, g2, g3, g4⟩ := hg
  have hro : Roomy ld.2 := hB.ro (by omega)
  have hok : RowOK ld.1 ld.2 := hC.2.2.2.2.2.1.1
  have h12 : ld.1 ≤ 12 := hok.2.1
  have hV : VOK (vOf bd sk xs ld.1) := hR.env.vok hok
  refine gx_aload_n (i := 1) (pc := 1387) dL_law_1387 rfl rfl ?_
  refine gx_aload_n (i := 0) (pc := 1388) dL_law_1388 rfl rfl ?_
  refine gx_iload (pc := 1389) dL_law_1389 rfl ?_
  refine gx_iconst (nI 1) (pc := 1391) dL_law_1391 (by decide) ?_
  first | with_reducible refine gx_iaddN (pc := 1392) dL_law_1392 ?_ | refine gx_iadd (pc := 1392) dL_law_1392 ?_
  refine gl_sld (5 * j + 1) (pc := 1393) dL_law_1393 rfl (by omega) (by omega) ?_
  refine gx_callV ml_L_205 mt_X11_again (pc := 1394) dL_law_1394 (c_X11_again hC) rfl rfl rfl (by decide) ⟨(by show cz ≤ 601024; omega), (by show sz ≤ 7293034; omega)⟩ (by decide) rfl rfl (Nat.le_of_ble_eq_true rfl) (fun r σ' hp => ?_)
  obtain ⟨rfl, hC1, hF1⟩ := hp
  dsimp only [zRet]
  have hR1 := hR.sm hF1.sm
  refine gx_aload_n (i := 2) (pc := 1397) dL_law_1397 rfl rfl ?_
  refine gx_aload_n (i := 0) (pc := 1398) dL_law_1398 rfl rfl ?_
  refine gx_iload (pc := 1399) dL_law_1399 rfl ?_
  refine gx_iconst (nI 1) (pc := 1401) dL_law_1401 (by decide) ?_
  first | with_reducible refine gx_iaddN (pc := 1402) dL_law_1402 ?_ | refine gx_iadd (pc := 1402) dL_law_1402 ?_
  refine gl_sld (5 * j + 1) (pc := 1403) dL_law_1403 rfl (by omega) (by omega) ?_
  refine gx_callV ml_L_208 mt_X12_again (pc := 1404) dL_law_1404 (c_X12_again hR1) rfl rfl rfl (by decide) ⟨(by show cz ≤ 601024; omega), (by show sz ≤ 7293034; omega)⟩ (by decide) rfl rfl (Nat.le_of_ble_eq_true rfl) (fun r σ' hp => ?_)
  obtain ⟨rfl, hR2, hF2⟩ := hp
  dsimp only [zRet]
  have hC2 := hC1.hi hF2 (by simp)
  refine gx_icmp_eq 1492 (pc := 1407) dL_law_1407 (by decide) (fun h1407 => ?_) (fun h1407 => ?_)
  · exact hf _ _ _ _ _ _ _ _ _ _ _ _ _ hC2 hR2 hB.again (by omega) (by omega)
  · exact absurd rfl h1407

theorem case_count {E : zE} {b L j cz sz : Nat} {scr : Nat → Int32} {σ : zT} {tx : Nat × (Nat → Nat)} {bd : Nat × (Nat → Nat) × (Nat → Nat)} {sk : Nat × (Nat → Nat)} {tw : Nat × (Nat → Nat) × (Nat → Nat)} {xs : List Nat} {ld : Nat × (Nat → Nat)} {pa sh : Nat × (Nat → Nat → Nat)} {ru : Nat × (Nat → Nat) × (Nat → Nat)} {to : Nat × (Nat → Int64)} (hf : Fnl E b L scr j cz sz) (hg : Beg L j cz sz) (hC : ClsIs σ tx bd sk tw xs ld pa sh ru to) (hR : RefIs σ tx bd sk tw xs ld pa sh ru to) (hB : Bnd j ld.2 pa sh) : GL E b L scr cz sz σ 1412 (lvL E b j) [] := by
  obtain ⟨g1, g2, g3, g4⟩ := hg
  have hro : Roomy ld.2 := hB.ro (by omega)
  have hok : RowOK ld.1 ld.2 := hC.2.2.2.2.2.1.1
  have h12 : ld.1 ≤ 12 := hok.2.1
  have hV : VOK (vOf bd sk xs ld.1) := hR.env.vok hok
  refine gx_aload_n (i := 1) (pc := 1412) dL_law_1412 rfl rfl ?_
  refine gx_aload_n (i := 0) (pc := 1413) dL_law_1413 rfl rfl ?_
  refine gx_iload (pc := 1414) dL_law_1414 rfl ?_
  refine gx_iconst (nI 1) (pc := 1416) dL_law_1416 (by decide) ?_
  first | with_reducible refine gx_iaddN (pc := 1417) dL_law_1417 ?_ | refine gx_iadd (pc := 1417) dL_law_1417 ?_
  refine gl_sld (5 * j + 1) (pc := 1418) dL_law_1418 rfl (by omega) (by omega) ?_
  refine gx_callV ml_L_209 mt_X11_count (pc := 1419) dL_law_1419 (c_X11_count hC) rfl rfl rfl (by decide) ⟨(by show cz ≤ 601024; omega), (by show sz ≤ 7293034; omega)⟩ (by decide) rfl rfl (Nat.le_of_ble_eq_true rfl) (fun r σ' hp => ?_)
  obtain ⟨rfl, hC1, hF1⟩ := hp
  dsimp only [zRet]
  have hR1 := hR.sm hF1.sm
  refine gx_aload_n (i := 2) (pc := 1422) dL_law_1422 rfl rfl ?_
  refine gx_aload_n (i := 0) (pc := 1423) dL_law_1423 rfl rfl ?_
  refine gx_iload (pc := 1424) dL_law_1424 rfl ?_
  refine gx_iconst (nI 1) (pc := 1426) dL_law_1426 (by decide) ?_
  first | with_reducible refine gx_iaddN (pc := 1427) dL_law_1427 ?_ | refine gx_iadd (pc := 1427) dL_law_1427 ?_
  refine gl_sld (5 * j + 1) (pc := 1428) dL_law_1428 rfl (by omega) (by omega) ?_
  refine gx_callV ml_L_212 mt_X12_count (pc := 1429) dL_law_1429 (c_X12_count hR1) rfl rfl rfl (by decide) ⟨(by show cz ≤ 601024; omega), (by show sz ≤ 7293034; omega)⟩ (by decide) rfl rfl (Nat.le_of_ble_eq_true rfl) (fun r σ' hp => ?_)
  obtain ⟨rfl, hR2, hF2⟩ := hp
  dsimp only [zRet]
  have hC2 := hC1.hi hF2 (by simp)
  refine gx_icmp_eq 1492 (pc := 1432) dL_law_1432 (by decide) (fun h1432 => ?_) (fun h1432 => ?_)
  · exact hf _ _ _ _ _ _ _ _ _ _ _ _ _ hC2 hR2 hB.up (by omega) (by omega)
  · exact absurd rfl h1432

theorem case_mile {E : zE} {b L j cz sz : Nat} {scr : Nat → Int32} {σ : zT} {tx : Nat × (Nat → Nat)} {bd : Nat × (Nat → Nat) × (Nat → Nat)} {sk : Nat × (Nat → Nat)} {tw : Nat × (Nat → Nat) × (Nat → Nat)} {xs : List Nat} {ld : Nat × (Nat → Nat)} {pa sh : Nat × (Nat → Nat → Nat)} {ru : Nat × (Nat → Nat) × (Nat → Nat)} {to : Nat × (Nat → Int64)} (hf : Fnl E b L scr j cz sz) (hg : Beg L j cz sz) (hC : ClsIs σ tx bd sk tw xs ld pa sh ru to) (hR : RefIs σ tx bd sk tw xs ld pa sh ru to) (hB : Bnd j ld.2 pa sh) : GL E b L scr cz sz σ 347 (lvL E b j) [] := by
  obtain ⟨g1, g2, g3, g4⟩ := hg
  have hro : Roomy ld.2 := hB.ro (by omega)
  have hok : RowOK ld.1 ld.2 := hC.2.2.2.2.2.1.1
  have h12 : ld.1 ≤ 12 := hok.2.1
  have hV : VOK (vOf bd sk xs ld.1) := hR.env.vok hok
  refine gx_aload_n (i := 1) (pc := 347) dL_law_347 rfl rfl ?_
  refine gx_aload_n (i := 0) (pc := 348) dL_law_348 rfl rfl ?_
  refine gx_iload (pc := 349) dL_law_349 rfl ?_
  refine gx_iconst (nI 1) (pc := 351) dL_law_351 (by decide) ?_
  first | with_reducible refine gx_iaddN (pc := 352) dL_law_352 ?_ | refine gx_iadd (pc := 352) dL_law_352 ?_
  refine gl_sld (5 * j + 1) (pc := 353) dL_law_353 rfl (by omega) (by omega) ?_
  refine gx_aload_n (i := 0) (pc := 354) dL_law_354 rfl rfl ?_
  refine gx_iload (pc := 355) dL_law_355 rfl ?_
  refine gx_iconst (nI 2) (pc := 357) dL_law_357 (by decide) ?_
  first | with_reducible refine gx_iaddN (pc := 358) dL_law_358 ?_ | refine gx_iadd (pc := 358) dL_law_358 ?_
  refine gl_sld (5 * j + 2) (pc := 359) dL_law_359 rfl (by omega) (by omega) ?_
  refine gx_aload_n (i := 3) (pc := 360) dL_law_360 rfl rfl ?_
  cases hq : mileA ld.1 ld.2 (scr (5 * j + 1)) (scr (5 * j + 2)) with
  | none =>
    refine gx_callVW ml_L_60 mw_L_mile (pc := 361) dL_law_361 (v_L_mile hC hq) (by decide) ⟨(by show cz + 1 ≤ 601024; omega), (by show sz + 6 ≤ 7293034; omega)⟩ (by decide) rfl rfl (Nat.le_of_ble_eq_true rfl) (fun r σ' hp => ?_)
    obtain ⟨rfl, hσ⟩ := hp
    subst hσ
    dsimp only [zRet]
    have hC1 := hC
    have hR1 := hR
    refine gx_istore (pc := 364) dL_law_364 (by decide) ?_
    refine gx_aload_n (i := 2) (pc := 366) dL_law_366 rfl rfl ?_
    refine gx_aload_n (i := 0) (pc := 367) dL_law_367 rfl rfl ?_
    refine gx_iload (pc := 368) dL_law_368 rfl ?_
    refine gx_iconst (nI 1) (pc := 370) dL_law_370 (by decide) ?_
    first | with_reducible refine gx_iaddN (pc := 371) dL_law_371 ?_ | refine gx_iadd (pc := 371) dL_law_371 ?_
    refine gl_sld (5 * j + 1) (pc := 372) dL_law_372 rfl (by omega) (by omega) ?_
    refine gx_aload_n (i := 0) (pc := 373) dL_law_373 rfl rfl ?_
    refine gx_iload (pc := 374) dL_law_374 rfl ?_
    refine gx_iconst (nI 2) (pc := 376) dL_law_376 (by decide) ?_
    first | with_reducible refine gx_iaddN (pc := 377) dL_law_377 ?_ | refine gx_iadd (pc := 377) dL_law_377 ?_
    refine gl_sld (5 * j + 2) (pc := 378) dL_law_378 rfl (by omega) (by omega) ?_
    refine gx_callV ml_L_65 mt_X12_mile (pc := 379) dL_law_379 (c_X12_mile hR1) rfl rfl rfl (by decide) ⟨(by show cz + 1 ≤ 601024; omega), (by show sz + 6 ≤ 7293034; omega)⟩ (by decide) rfl rfl (Nat.le_of_ble_eq_true rfl) (fun r σ' hp => ?_)
    obtain ⟨rfl, hR2, hF2, ht2⟩ := hp
    dsimp only [zRet]
    rw [hq] at ht2 ⊢
    dsimp only [ans, thr0] at ht2 ⊢
    have hC2 := hC1.hi hF2 (by simp)
    refine gx_istore (pc := 382) dL_law_382 (by decide) ?_
    refine gx_aload_n (i := 2) (pc := 384) dL_law_384 rfl rfl ?_
    refine gx_callV ml_L_66 mt_X12_thrown (pc := 385) dL_law_385 (c_X12_thrown) rfl rfl rfl (by decide) ⟨(by show cz + 1 ≤ 601024; omega), (by show sz + 6 ≤ 7293034; omega)⟩ (by decide) rfl rfl (Nat.le_of_ble_eq_true rfl) (fun r σ' hp => ?_)
    obtain ⟨rfl, hσ⟩ := hp
    subst hσ
    dsimp only [zRet]
    rw [ht2]
    refine gx_iload (pc := 388) dL_law_388 rfl ?_
    refine gx_icmp_eq 395 (pc := 390) dL_law_390 (by decide) (fun h390 => ?_) (fun h390 => ?_)
    · refine gx_iload (pc := 395) dL_law_395 rfl ?_
      refine gx_if_ne 412 (pc := 397) dL_law_397 (by decide) (fun h397 => ?_) (fun h397 => ?_)
      · refine gx_goto 1492 (pc := 412) dL_law_412 (by decide) ?_
        refine gx_drop [0, 1, 2, 3, 4] rfl ?_
        exact hf _ _ _ _ _ _ _ _ _ _ _ _ _ hC2 hR2 hB.up (by omega) (by omega)
      · exact absurd h397 (by decide)
    · exact absurd rfl h390
  | some v =>
    refine gx_callW ml_L_60 mw_L_mile (pc := 361) dL_law_361 (w_L_mile hC hq) (by decide) ⟨(by show cz ≤ 601024; omega), (by show sz ≤ 7293034; omega)⟩ (by decide) rfl rfl (Nat.le_of_ble_eq_true rfl) (fun r σ' hp => ?_)
    obtain ⟨rfl, hC1, hS1, ho1⟩ := hp
    dsimp only [zRet]
    have hR1 := hR.sm hS1
    refine gx_istore (pc := 364) dL_law_364 (by decide) ?_
    refine gx_aload_n (i := 2) (pc := 366) dL_law_366 rfl rfl ?_
    refine gx_aload_n (i := 0) (pc := 367) dL_law_367 rfl rfl ?_
    refine gx_iload (pc := 368) dL_law_368 rfl ?_
    refine gx_iconst (nI 1) (pc := 370) dL_law_370 (by decide) ?_
    first | with_reducible refine gx_iaddN (pc := 371) dL_law_371 ?_ | refine gx_iadd (pc := 371) dL_law_371 ?_
    refine gl_sld (5 * j + 1) (pc := 372) dL_law_372 rfl (by omega) (by omega) ?_
    refine gx_aload_n (i := 0) (pc := 373) dL_law_373 rfl rfl ?_
    refine gx_iload (pc := 374) dL_law_374 rfl ?_
    refine gx_iconst (nI 2) (pc := 376) dL_law_376 (by decide) ?_
    first | with_reducible refine gx_iaddN (pc := 377) dL_law_377 ?_ | refine gx_iadd (pc := 377) dL_law_377 ?_
    refine gl_sld (5 * j + 2) (pc := 378) dL_law_378 rfl (by omega) (by omega) ?_
    refine gx_callV ml_L_65 mt_X12_mile (pc := 379) dL_law_379 (c_X12_mile hR1) rfl rfl rfl (by decide) ⟨(by show cz ≤ 601024; omega), (by show sz ≤ 7293034; omega)⟩ (by decide) rfl rfl (Nat.le_of_ble_eq_true rfl) (fun r σ' hp => ?_)
    obtain ⟨rfl, hR2, hF2, ht2⟩ := hp
    dsimp only [zRet]
    rw [hq] at ht2 ⊢
    dsimp only [ans, thr0] at ht2 ⊢
    have hC2 := hC1.hi hF2 (by simp)
    have ho2 : σ'.2.2.1 34 0 = v.toInt64 := by rw [(hF2.1 34 (by decide)).2.2]; exact ho1
    refine gx_istore (pc := 382) dL_law_382 (by decide) ?_
    refine gx_aload_n (i := 2) (pc := 384) dL_law_384 rfl rfl ?_
    refine gx_callV ml_L_66 mt_X12_thrown (pc := 385) dL_law_385 (c_X12_thrown) rfl rfl rfl (by decide) ⟨(by show cz ≤ 601024; omega), (by show sz ≤ 7293034; omega)⟩ (by decide) rfl rfl (Nat.le_of_ble_eq_true rfl) (fun r σ' hp => ?_)
    obtain ⟨rfl, hσ⟩ := hp
    subst hσ
    dsimp only [zRet]
    rw [ht2]
    refine gx_iload (pc := 388) dL_law_388 rfl ?_
    refine gx_icmp_eq 395 (pc := 390) dL_law_390 (by decide) (fun h390 => ?_) (fun h390 => ?_)
    · refine gx_iload (pc := 395) dL_law_395 rfl ?_
      refine gx_if_ne 412 (pc := 397) dL_law_397 (by decide) (fun h397 => ?_) (fun h397 => ?_)
      · exact absurd rfl h397
      · refine gx_aload_n (i := 3) (pc := 400) dL_law_400 rfl rfl ?_
        refine gx_iconst (nI 0) (pc := 401) dL_law_401 (by decide) ?_
        refine gx_laload 0 (pc := 402) dL_law_402 rfl rfl rfl (by decide) ?_
        rw [ho2]
        refine gx_iload (pc := 403) dL_law_403 rfl ?_
        refine gx_i2l (pc := 405) dL_law_405 ?_
        refine gx_lcmp (pc := 406) dL_law_406 ?_
        refine gx_if_eq 412 (pc := 407) dL_law_407 (by decide) (fun h407 => ?_) (fun h407 => ?_)
        · refine gx_goto 1492 (pc := 412) dL_law_412 (by decide) ?_
          refine gx_drop [0, 1, 2, 3, 4] rfl ?_
          exact hf _ _ _ _ _ _ _ _ _ _ _ _ _ hC2 hR2 hB.up (by omega) (by omega)
        · exact absurd ((lg_cmp_eq _ _).mpr rfl) h407
    · exact absurd rfl h390

theorem case_carrier {E : zE} {b L j cz sz : Nat} {scr : Nat → Int32} {σ : zT} {tx : Nat × (Nat → Nat)} {bd : Nat × (Nat → Nat) × (Nat → Nat)} {sk : Nat × (Nat → Nat)} {tw : Nat × (Nat → Nat) × (Nat → Nat)} {xs : List Nat} {ld : Nat × (Nat → Nat)} {pa sh : Nat × (Nat → Nat → Nat)} {ru : Nat × (Nat → Nat) × (Nat → Nat)} {to : Nat × (Nat → Int64)} (hf : Fnl E b L scr j cz sz) (hg : Beg L j cz sz) (hC : ClsIs σ tx bd sk tw xs ld pa sh ru to) (hR : RefIs σ tx bd sk tw xs ld pa sh ru to) (hB : Bnd j ld.2 pa sh) : GL E b L scr cz sz σ 415 (lvL E b j) [] := by
  obtain ⟨g1, g2, g3, g4⟩ := hg
  have hro : Roomy ld.2 := hB.ro (by omega)
  have hok : RowOK ld.1 ld.2 := hC.2.2.2.2.2.1.1
  have h12 : ld.1 ≤ 12 := hok.2.1
  have hV : VOK (vOf bd sk xs ld.1) := hR.env.vok hok
  refine gx_aload_n (i := 1) (pc := 415) dL_law_415 rfl rfl ?_
  refine gx_aload_n (i := 0) (pc := 416) dL_law_416 rfl rfl ?_
  refine gx_iload (pc := 417) dL_law_417 rfl ?_
  refine gx_iconst (nI 1) (pc := 419) dL_law_419 (by decide) ?_
  first | with_reducible refine gx_iaddN (pc := 420) dL_law_420 ?_ | refine gx_iadd (pc := 420) dL_law_420 ?_
  refine gl_sld (5 * j + 1) (pc := 421) dL_law_421 rfl (by omega) (by omega) ?_
  refine gx_aload_n (i := 0) (pc := 422) dL_law_422 rfl rfl ?_
  refine gx_iload (pc := 423) dL_law_423 rfl ?_
  refine gx_iconst (nI 2) (pc := 425) dL_law_425 (by decide) ?_
  first | with_reducible refine gx_iaddN (pc := 426) dL_law_426 ?_ | refine gx_iadd (pc := 426) dL_law_426 ?_
  refine gl_sld (5 * j + 2) (pc := 427) dL_law_427 rfl (by omega) (by omega) ?_
  refine gx_aload_n (i := 3) (pc := 428) dL_law_428 rfl rfl ?_
  cases hq : carA (vOf bd sk xs ld.1) ld.2 (scr (5 * j + 1)) (scr (5 * j + 2)) with
  | none =>
    refine gx_callVW ml_L_69 mw_L_carrier (pc := 429) dL_law_429 (v_L_carrier hC hq) (by decide) ⟨(by show cz + 1 ≤ 601024; omega), (by show sz + 6 ≤ 7293034; omega)⟩ (by decide) rfl rfl (Nat.le_of_ble_eq_true rfl) (fun r σ' hp => ?_)
    obtain ⟨rfl, hσ⟩ := hp
    subst hσ
    dsimp only [zRet]
    have hC1 := hC
    have hR1 := hR
    refine gx_istore (pc := 432) dL_law_432 (by decide) ?_
    refine gx_aload_n (i := 2) (pc := 434) dL_law_434 rfl rfl ?_
    refine gx_aload_n (i := 0) (pc := 435) dL_law_435 rfl rfl ?_
    refine gx_iload (pc := 436) dL_law_436 rfl ?_
    refine gx_iconst (nI 1) (pc := 438) dL_law_438 (by decide) ?_
    first | with_reducible refine gx_iaddN (pc := 439) dL_law_439 ?_ | refine gx_iadd (pc := 439) dL_law_439 ?_
    refine gl_sld (5 * j + 1) (pc := 440) dL_law_440 rfl (by omega) (by omega) ?_
    refine gx_aload_n (i := 0) (pc := 441) dL_law_441 rfl rfl ?_
    refine gx_iload (pc := 442) dL_law_442 rfl ?_
    refine gx_iconst (nI 2) (pc := 444) dL_law_444 (by decide) ?_
    first | with_reducible refine gx_iaddN (pc := 445) dL_law_445 ?_ | refine gx_iadd (pc := 445) dL_law_445 ?_
    refine gl_sld (5 * j + 2) (pc := 446) dL_law_446 rfl (by omega) (by omega) ?_
    refine gx_callV ml_L_71 mt_X12_carrier (pc := 447) dL_law_447 (c_X12_carrier hR1) rfl rfl rfl (by decide) ⟨(by show cz + 1 ≤ 601024; omega), (by show sz + 6 ≤ 7293034; omega)⟩ (by decide) rfl rfl (Nat.le_of_ble_eq_true rfl) (fun r σ' hp => ?_)
    obtain ⟨rfl, hR2, hF2, ht2⟩ := hp
    dsimp only [zRet]
    rw [hq] at ht2 ⊢
    dsimp only [ans, thr0] at ht2 ⊢
    have hC2 := hC1.hi hF2 (by simp)
    refine gx_istore (pc := 450) dL_law_450 (by decide) ?_
    refine gx_aload_n (i := 2) (pc := 452) dL_law_452 rfl rfl ?_
    refine gx_callV ml_L_66 mt_X12_thrown (pc := 453) dL_law_453 (c_X12_thrown) rfl rfl rfl (by decide) ⟨(by show cz + 1 ≤ 601024; omega), (by show sz + 6 ≤ 7293034; omega)⟩ (by decide) rfl rfl (Nat.le_of_ble_eq_true rfl) (fun r σ' hp => ?_)
    obtain ⟨rfl, hσ⟩ := hp
    subst hσ
    dsimp only [zRet]
    rw [ht2]
    refine gx_iload (pc := 456) dL_law_456 rfl ?_
    refine gx_icmp_eq 463 (pc := 458) dL_law_458 (by decide) (fun h458 => ?_) (fun h458 => ?_)
    · refine gx_iload (pc := 463) dL_law_463 rfl ?_
      refine gx_if_ne 480 (pc := 465) dL_law_465 (by decide) (fun h465 => ?_) (fun h465 => ?_)
      · refine gx_goto 1492 (pc := 480) dL_law_480 (by decide) ?_
        refine gx_drop [0, 1, 2, 3, 4] rfl ?_
        exact hf _ _ _ _ _ _ _ _ _ _ _ _ _ hC2 hR2 hB.up (by omega) (by omega)
      · exact absurd h465 (by decide)
    · exact absurd rfl h458
  | some v =>
    refine gx_callW ml_L_69 mw_L_carrier (pc := 429) dL_law_429 (w_L_carrier hC hq) (by decide) ⟨(by show cz ≤ 601024; omega), (by show sz ≤ 7293034; omega)⟩ (by decide) rfl rfl (Nat.le_of_ble_eq_true rfl) (fun r σ' hp => ?_)
    obtain ⟨rfl, hC1, hS1, ho1⟩ := hp
    dsimp only [zRet]
    have hR1 := hR.sm hS1
    refine gx_istore (pc := 432) dL_law_432 (by decide) ?_
    refine gx_aload_n (i := 2) (pc := 434) dL_law_434 rfl rfl ?_
    refine gx_aload_n (i := 0) (pc := 435) dL_law_435 rfl rfl ?_
    refine gx_iload (pc := 436) dL_law_436 rfl ?_
    refine gx_iconst (nI 1) (pc := 438) dL_law_438 (by decide) ?_
    first | with_reducible refine gx_iaddN (pc := 439) dL_law_439 ?_ | refine gx_iadd (pc := 439) dL_law_439 ?_
    refine gl_sld (5 * j + 1) (pc := 440) dL_law_440 rfl (by omega) (by omega) ?_
    refine gx_aload_n (i := 0) (pc := 441) dL_law_441 rfl rfl ?_
    refine gx_iload (pc := 442) dL_law_442 rfl ?_
    refine gx_iconst (nI 2) (pc := 444) dL_law_444 (by decide) ?_
    first | with_reducible refine gx_iaddN (pc := 445) dL_law_445 ?_ | refine gx_iadd (pc := 445) dL_law_445 ?_
    refine gl_sld (5 * j + 2) (pc := 446) dL_law_446 rfl (by omega) (by omega) ?_
    refine gx_callV ml_L_71 mt_X12_carrier (pc := 447) dL_law_447 (c_X12_carrier hR1) rfl rfl rfl (by decide) ⟨(by show cz ≤ 601024; omega), (by show sz ≤ 7293034; omega)⟩ (by decide) rfl rfl (Nat.le_of_ble_eq_true rfl) (fun r σ' hp => ?_)
    obtain ⟨rfl, hR2, hF2, ht2⟩ := hp
    dsimp only [zRet]
    rw [hq] at ht2 ⊢
    dsimp only [ans, thr0] at ht2 ⊢
    have hC2 := hC1.hi hF2 (by simp)
    have ho2 : σ'.2.2.1 34 0 = v.toInt64 := by rw [(hF2.1 34 (by decide)).2.2]; exact ho1
    refine gx_istore (pc := 450) dL_law_450 (by decide) ?_
    refine gx_aload_n (i := 2) (pc := 452) dL_law_452 rfl rfl ?_
    refine gx_callV ml_L_66 mt_X12_thrown (pc := 453) dL_law_453 (c_X12_thrown) rfl rfl rfl (by decide) ⟨(by show cz ≤ 601024; omega), (by show sz ≤ 7293034; omega)⟩ (by decide) rfl rfl (Nat.le_of_ble_eq_true rfl) (fun r σ' hp => ?_)
    obtain ⟨rfl, hσ⟩ := hp
    subst hσ
    dsimp only [zRet]
    rw [ht2]
    refine gx_iload (pc := 456) dL_law_456 rfl ?_
    refine gx_icmp_eq 463 (pc := 458) dL_law_458 (by decide) (fun h458 => ?_) (fun h458 => ?_)
    · refine gx_iload (pc := 463) dL_law_463 rfl ?_
      refine gx_if_ne 480 (pc := 465) dL_law_465 (by decide) (fun h465 => ?_) (fun h465 => ?_)
      · exact absurd rfl h465
      · refine gx_aload_n (i := 3) (pc := 468) dL_law_468 rfl rfl ?_
        refine gx_iconst (nI 0) (pc := 469) dL_law_469 (by decide) ?_
        refine gx_laload 0 (pc := 470) dL_law_470 rfl rfl rfl (by decide) ?_
        rw [ho2]
        refine gx_iload (pc := 471) dL_law_471 rfl ?_
        refine gx_i2l (pc := 473) dL_law_473 ?_
        refine gx_lcmp (pc := 474) dL_law_474 ?_
        refine gx_if_eq 480 (pc := 475) dL_law_475 (by decide) (fun h475 => ?_) (fun h475 => ?_)
        · refine gx_goto 1492 (pc := 480) dL_law_480 (by decide) ?_
          refine gx_drop [0, 1, 2, 3, 4] rfl ?_
          exact hf _ _ _ _ _ _ _ _ _ _ _ _ _ hC2 hR2 hB.up (by omega) (by omega)
        · exact absurd ((lg_cmp_eq _ _).mpr rfl) h475
    · exact absurd rfl h458

theorem case_mouth {E : zE} {b L j cz sz : Nat} {scr : Nat → Int32} {σ : zT} {tx : Nat × (Nat → Nat)} {bd : Nat × (Nat → Nat) × (Nat → Nat)} {sk : Nat × (Nat → Nat)} {tw : Nat × (Nat → Nat) × (Nat → Nat)} {xs : List Nat} {ld : Nat × (Nat → Nat)} {pa sh : Nat × (Nat → Nat → Nat)} {ru : Nat × (Nat → Nat) × (Nat → Nat)} {to : Nat × (Nat → Int64)} (hf : Fnl E b L scr j cz sz) (hg : Beg L j cz sz) (hC : ClsIs σ tx bd sk tw xs ld pa sh ru to) (hR : RefIs σ tx bd sk tw xs ld pa sh ru to) (hB : Bnd j ld.2 pa sh) : GL E b L scr cz sz σ 483 (lvL E b j) [] := by
  obtain ⟨g1, g2, g3, g4⟩ := hg
  have hro : Roomy ld.2 := hB.ro (by omega)
  have hok : RowOK ld.1 ld.2 := hC.2.2.2.2.2.1.1
  have h12 : ld.1 ≤ 12 := hok.2.1
  have hV : VOK (vOf bd sk xs ld.1) := hR.env.vok hok
  refine gx_aload_n (i := 1) (pc := 483) dL_law_483 rfl rfl ?_
  refine gx_aload_n (i := 0) (pc := 484) dL_law_484 rfl rfl ?_
  refine gx_iload (pc := 485) dL_law_485 rfl ?_
  refine gx_iconst (nI 1) (pc := 487) dL_law_487 (by decide) ?_
  first | with_reducible refine gx_iaddN (pc := 488) dL_law_488 ?_ | refine gx_iadd (pc := 488) dL_law_488 ?_
  refine gl_sld (5 * j + 1) (pc := 489) dL_law_489 rfl (by omega) (by omega) ?_
  refine gx_aload_n (i := 0) (pc := 490) dL_law_490 rfl rfl ?_
  refine gx_iload (pc := 491) dL_law_491 rfl ?_
  refine gx_iconst (nI 2) (pc := 493) dL_law_493 (by decide) ?_
  first | with_reducible refine gx_iaddN (pc := 494) dL_law_494 ?_ | refine gx_iadd (pc := 494) dL_law_494 ?_
  refine gl_sld (5 * j + 2) (pc := 495) dL_law_495 rfl (by omega) (by omega) ?_
  refine gx_aload_n (i := 3) (pc := 496) dL_law_496 rfl rfl ?_
  cases hq : mouA tw (scr (5 * j + 1)) (scr (5 * j + 2)) with
  | none =>
    refine gx_callVW ml_L_72 mw_L_mouth (pc := 497) dL_law_497 (v_L_mouth hC hq) (by decide) ⟨(by show cz + 1 ≤ 601024; omega), (by show sz + 6 ≤ 7293034; omega)⟩ (by decide) rfl rfl (Nat.le_of_ble_eq_true rfl) (fun r σ' hp => ?_)
    obtain ⟨rfl, hσ⟩ := hp
    subst hσ
    dsimp only [zRet]
    have hC1 := hC
    have hR1 := hR
    refine gx_istore (pc := 500) dL_law_500 (by decide) ?_
    refine gx_aload_n (i := 2) (pc := 502) dL_law_502 rfl rfl ?_
    refine gx_aload_n (i := 0) (pc := 503) dL_law_503 rfl rfl ?_
    refine gx_iload (pc := 504) dL_law_504 rfl ?_
    refine gx_iconst (nI 1) (pc := 506) dL_law_506 (by decide) ?_
    first | with_reducible refine gx_iaddN (pc := 507) dL_law_507 ?_ | refine gx_iadd (pc := 507) dL_law_507 ?_
    refine gl_sld (5 * j + 1) (pc := 508) dL_law_508 rfl (by omega) (by omega) ?_
    refine gx_aload_n (i := 0) (pc := 509) dL_law_509 rfl rfl ?_
    refine gx_iload (pc := 510) dL_law_510 rfl ?_
    refine gx_iconst (nI 2) (pc := 512) dL_law_512 (by decide) ?_
    first | with_reducible refine gx_iaddN (pc := 513) dL_law_513 ?_ | refine gx_iadd (pc := 513) dL_law_513 ?_
    refine gl_sld (5 * j + 2) (pc := 514) dL_law_514 rfl (by omega) (by omega) ?_
    refine gx_callV ml_L_74 mt_X12_mouth (pc := 515) dL_law_515 (c_X12_mouth hR1) rfl rfl rfl (by decide) ⟨(by show cz + 1 ≤ 601024; omega), (by show sz + 6 ≤ 7293034; omega)⟩ (by decide) rfl rfl (Nat.le_of_ble_eq_true rfl) (fun r σ' hp => ?_)
    obtain ⟨rfl, hR2, hF2, ht2⟩ := hp
    dsimp only [zRet]
    rw [hq] at ht2 ⊢
    dsimp only [ans, thr0] at ht2 ⊢
    have hC2 := hC1.hi hF2 (by simp)
    refine gx_istore (pc := 518) dL_law_518 (by decide) ?_
    refine gx_aload_n (i := 2) (pc := 520) dL_law_520 rfl rfl ?_
    refine gx_callV ml_L_66 mt_X12_thrown (pc := 521) dL_law_521 (c_X12_thrown) rfl rfl rfl (by decide) ⟨(by show cz + 1 ≤ 601024; omega), (by show sz + 6 ≤ 7293034; omega)⟩ (by decide) rfl rfl (Nat.le_of_ble_eq_true rfl) (fun r σ' hp => ?_)
    obtain ⟨rfl, hσ⟩ := hp
    subst hσ
    dsimp only [zRet]
    rw [ht2]
    refine gx_iload (pc := 524) dL_law_524 rfl ?_
    refine gx_icmp_eq 531 (pc := 526) dL_law_526 (by decide) (fun h526 => ?_) (fun h526 => ?_)
    · refine gx_iload (pc := 531) dL_law_531 rfl ?_
      refine gx_if_ne 548 (pc := 533) dL_law_533 (by decide) (fun h533 => ?_) (fun h533 => ?_)
      · refine gx_goto 1492 (pc := 548) dL_law_548 (by decide) ?_
        refine gx_drop [0, 1, 2, 3, 4] rfl ?_
        exact hf _ _ _ _ _ _ _ _ _ _ _ _ _ hC2 hR2 hB.up (by omega) (by omega)
      · exact absurd h533 (by decide)
    · exact absurd rfl h526
  | some v =>
    refine gx_callW ml_L_72 mw_L_mouth (pc := 497) dL_law_497 (w_L_mouth hC hq) (by decide) ⟨(by show cz ≤ 601024; omega), (by show sz ≤ 7293034; omega)⟩ (by decide) rfl rfl (Nat.le_of_ble_eq_true rfl) (fun r σ' hp => ?_)
    obtain ⟨rfl, hC1, hS1, ho1⟩ := hp
    dsimp only [zRet]
    have hR1 := hR.sm hS1
    refine gx_istore (pc := 500) dL_law_500 (by decide) ?_
    refine gx_aload_n (i := 2) (pc := 502) dL_law_502 rfl rfl ?_
    refine gx_aload_n (i := 0) (pc := 503) dL_law_503 rfl rfl ?_
    refine gx_iload (pc := 504) dL_law_504 rfl ?_
    refine gx_iconst (nI 1) (pc := 506) dL_law_506 (by decide) ?_
    first | with_reducible refine gx_iaddN (pc := 507) dL_law_507 ?_ | refine gx_iadd (pc := 507) dL_law_507 ?_
    refine gl_sld (5 * j + 1) (pc := 508) dL_law_508 rfl (by omega) (by omega) ?_
    refine gx_aload_n (i := 0) (pc := 509) dL_law_509 rfl rfl ?_
    refine gx_iload (pc := 510) dL_law_510 rfl ?_
    refine gx_iconst (nI 2) (pc := 512) dL_law_512 (by decide) ?_
    first | with_reducible refine gx_iaddN (pc := 513) dL_law_513 ?_ | refine gx_iadd (pc := 513) dL_law_513 ?_
    refine gl_sld (5 * j + 2) (pc := 514) dL_law_514 rfl (by omega) (by omega) ?_
    refine gx_callV ml_L_74 mt_X12_mouth (pc := 515) dL_law_515 (c_X12_mouth hR1) rfl rfl rfl (by decide) ⟨(by show cz ≤ 601024; omega), (by show sz ≤ 7293034; omega)⟩ (by decide) rfl rfl (Nat.le_of_ble_eq_true rfl) (fun r σ' hp => ?_)
    obtain ⟨rfl, hR2, hF2, ht2⟩ := hp
    dsimp only [zRet]
    rw [hq] at ht2 ⊢
    dsimp only [ans, thr0] at ht2 ⊢
    have hC2 := hC1.hi hF2 (by simp)
    have ho2 : σ'.2.2.1 34 0 = v.toInt64 := by rw [(hF2.1 34 (by decide)).2.2]; exact ho1
    refine gx_istore (pc := 518) dL_law_518 (by decide) ?_
    refine gx_aload_n (i := 2) (pc := 520) dL_law_520 rfl rfl ?_
    refine gx_callV ml_L_66 mt_X12_thrown (pc := 521) dL_law_521 (c_X12_thrown) rfl rfl rfl (by decide) ⟨(by show cz ≤ 601024; omega), (by show sz ≤ 7293034; omega)⟩ (by decide) rfl rfl (Nat.le_of_ble_eq_true rfl) (fun r σ' hp => ?_)
    obtain ⟨rfl, hσ⟩ := hp
    subst hσ
    dsimp only [zRet]
    rw [ht2]
    refine gx_iload (pc := 524) dL_law_524 rfl ?_
    refine gx_icmp_eq 531 (pc := 526) dL_law_526 (by decide) (fun h526 => ?_) (fun h526 => ?_)
    · refine gx_iload (pc := 531) dL_law_531 rfl ?_
      refine gx_if_ne 548 (pc := 533) dL_law_533 (by decide) (fun h533 => ?_) (fun h533 => ?_)
      · exact absurd rfl h533
      · refine gx_aload_n (i := 3) (pc := 536) dL_law_536 rfl rfl ?_
        refine gx_iconst (nI 0) (pc := 537) dL_law_537 (by decide) ?_
        refine gx_laload 0 (pc := 538) dL_law_538 rfl rfl rfl (by decide) ?_
        rw [ho2]
        refine gx_iload (pc := 539) dL_law_539 rfl ?_
        refine gx_i2l (pc := 541) dL_law_541 ?_
        refine gx_lcmp (pc := 542) dL_law_542 ?_
        refine gx_if_eq 548 (pc := 543) dL_law_543 (by decide) (fun h543 => ?_) (fun h543 => ?_)
        · refine gx_goto 1492 (pc := 548) dL_law_548 (by decide) ?_
          refine gx_drop [0, 1, 2, 3, 4] rfl ?_
          exact hf _ _ _ _ _ _ _ _ _ _ _ _ _ hC2 hR2 hB.up (by omega) (by omega)
        · exact absurd ((lg_cmp_eq _ _).mpr rfl) h543
    · exact absurd rfl h526

theorem case_row {E : zE} {b L j cz sz : Nat} {scr : Nat → Int32} {σ : zT} {tx : Nat × (Nat → Nat)} {bd : Nat × (Nat → Nat) × (Nat → Nat)} {sk : Nat × (Nat → Nat)} {tw : Nat × (Nat → Nat) × (Nat → Nat)} {xs : List Nat} {ld : Nat × (Nat → Nat)} {pa sh : Nat × (Nat → Nat → Nat)} {ru : Nat × (Nat → Nat) × (Nat → Nat)} {to : Nat × (Nat → Int64)} (hf : Fnl E b L scr j cz sz) (hg : Beg L j cz sz) (hC : ClsIs σ tx bd sk tw xs ld pa sh ru to) (hR : RefIs σ tx bd sk tw xs ld pa sh ru to) (hB : Bnd j ld.2 pa sh) : GL E b L scr cz sz σ 1437 (lvL E b j) [] := by
  obtain ⟨g1, g2, g3, g4⟩ := hg
  have hro : Roomy ld.2 := hB.ro (by omega)
  have hok : RowOK ld.1 ld.2 := hC.2.2.2.2.2.1.1
  have h12 : ld.1 ≤ 12 := hok.2.1
  have hV : VOK (vOf bd sk xs ld.1) := hR.env.vok hok
  refine gx_aload_n (i := 1) (pc := 1437) dL_law_1437 rfl rfl ?_
  refine gx_aload_n (i := 0) (pc := 1438) dL_law_1438 rfl rfl ?_
  refine gx_iload (pc := 1439) dL_law_1439 rfl ?_
  refine gx_iconst (nI 1) (pc := 1441) dL_law_1441 (by decide) ?_
  first | with_reducible refine gx_iaddN (pc := 1442) dL_law_1442 ?_ | refine gx_iadd (pc := 1442) dL_law_1442 ?_
  refine gl_sld (5 * j + 1) (pc := 1443) dL_law_1443 rfl (by omega) (by omega) ?_
  refine gx_aload_n (i := 3) (pc := 1444) dL_law_1444 rfl rfl ?_
  cases hq : rowA to (scr (5 * j + 1)) with
  | none =>
    refine gx_callVW ml_L_213 mw_L_row (pc := 1445) dL_law_1445 (v_L_row hC hq) (by decide) ⟨(by show cz + 1 ≤ 601024; omega), (by show sz + 6 ≤ 7293034; omega)⟩ (by decide) rfl rfl (Nat.le_of_ble_eq_true rfl) (fun r σ' hp => ?_)
    obtain ⟨rfl, hσ⟩ := hp
    subst hσ
    dsimp only [zRet]
    have hC1 := hC
    have hR1 := hR
    refine gx_istore (pc := 1448) dL_law_1448 (by decide) ?_
    refine gx_aload_n (i := 2) (pc := 1450) dL_law_1450 rfl rfl ?_
    refine gx_aload_n (i := 0) (pc := 1451) dL_law_1451 rfl rfl ?_
    refine gx_iload (pc := 1452) dL_law_1452 rfl ?_
    refine gx_iconst (nI 1) (pc := 1454) dL_law_1454 (by decide) ?_
    first | with_reducible refine gx_iaddN (pc := 1455) dL_law_1455 ?_ | refine gx_iadd (pc := 1455) dL_law_1455 ?_
    refine gl_sld (5 * j + 1) (pc := 1456) dL_law_1456 rfl (by omega) (by omega) ?_
    refine gx_callV ml_L_216 mt_X12_row (pc := 1457) dL_law_1457 (c_X12_row hR1) rfl rfl rfl (by decide) ⟨(by show cz + 1 ≤ 601024; omega), (by show sz + 6 ≤ 7293034; omega)⟩ (by decide) rfl rfl (Nat.le_of_ble_eq_true rfl) (fun r σ' hp => ?_)
    obtain ⟨rfl, hR2, hF2, ht2⟩ := hp
    dsimp only [zRet]
    rw [hq] at ht2 ⊢
    dsimp only [ans, thr0] at ht2 ⊢
    have hC2 := hC1.hi hF2 (by simp)
    refine gx_lstore (pc := 1460) dL_law_1460 (by decide) ?_
    refine gx_aload_n (i := 2) (pc := 1462) dL_law_1462 rfl rfl ?_
    refine gx_callV ml_L_66 mt_X12_thrown (pc := 1463) dL_law_1463 (c_X12_thrown) rfl rfl rfl (by decide) ⟨(by show cz + 1 ≤ 601024; omega), (by show sz + 6 ≤ 7293034; omega)⟩ (by decide) rfl rfl (Nat.le_of_ble_eq_true rfl) (fun r σ' hp => ?_)
    obtain ⟨rfl, hσ⟩ := hp
    subst hσ
    dsimp only [zRet]
    rw [ht2]
    refine gx_iload (pc := 1466) dL_law_1466 rfl ?_
    refine gx_icmp_eq 1473 (pc := 1468) dL_law_1468 (by decide) (fun h1468 => ?_) (fun h1468 => ?_)
    · refine gx_iload (pc := 1473) dL_law_1473 rfl ?_
      refine gx_if_ne 1489 (pc := 1475) dL_law_1475 (by decide) (fun h1475 => ?_) (fun h1475 => ?_)
      · refine gx_goto 1492 (pc := 1489) dL_law_1489 (by decide) ?_
        refine gx_drop [0, 1, 2, 3, 4] rfl ?_
        exact hf _ _ _ _ _ _ _ _ _ _ _ _ _ hC2 hR2 hB.up (by omega) (by omega)
      · exact absurd h1475 (by decide)
    · exact absurd rfl h1468
  | some v =>
    refine gx_callW ml_L_213 mw_L_row (pc := 1445) dL_law_1445 (w_L_row hC hq) (by decide) ⟨(by show cz ≤ 601024; omega), (by show sz ≤ 7293034; omega)⟩ (by decide) rfl rfl (Nat.le_of_ble_eq_true rfl) (fun r σ' hp => ?_)
    obtain ⟨rfl, hC1, hS1, ho1⟩ := hp
    dsimp only [zRet]
    have hR1 := hR.sm hS1
    refine gx_istore (pc := 1448) dL_law_1448 (by decide) ?_
    refine gx_aload_n (i := 2) (pc := 1450) dL_law_1450 rfl rfl ?_
    refine gx_aload_n (i := 0) (pc := 1451) dL_law_1451 rfl rfl ?_
    refine gx_iload (pc := 1452) dL_law_1452 rfl ?_
    refine gx_iconst (nI 1) (pc := 1454) dL_law_1454 (by decide) ?_
    first | with_reducible refine gx_iaddN (pc := 1455) dL_law_1455 ?_ | refine gx_iadd (pc := 1455) dL_law_1455 ?_
    refine gl_sld (5 * j + 1) (pc := 1456) dL_law_1456 rfl (by omega) (by omega) ?_
    refine gx_callV ml_L_216 mt_X12_row (pc := 1457) dL_law_1457 (c_X12_row hR1) rfl rfl rfl (by decide) ⟨(by show cz ≤ 601024; omega), (by show sz ≤ 7293034; omega)⟩ (by decide) rfl rfl (Nat.le_of_ble_eq_true rfl) (fun r σ' hp => ?_)
    obtain ⟨rfl, hR2, hF2, ht2⟩ := hp
    dsimp only [zRet]
    rw [hq] at ht2 ⊢
    dsimp only [ans, thr0] at ht2 ⊢
    have hC2 := hC1.hi hF2 (by simp)
    have ho2 : σ'.2.2.1 34 0 = v := by rw [(hF2.1 34 (by decide)).2.2]; exact ho1
    refine gx_lstore (pc := 1460) dL_law_1460 (by decide) ?_
    refine gx_aload_n (i := 2) (pc := 1462) dL_law_1462 rfl rfl ?_
    refine gx_callV ml_L_66 mt_X12_thrown (pc := 1463) dL_law_1463 (c_X12_thrown) rfl rfl rfl (by decide) ⟨(by show cz ≤ 601024; omega), (by show sz ≤ 7293034; omega)⟩ (by decide) rfl rfl (Nat.le_of_ble_eq_true rfl) (fun r σ' hp => ?_)
    obtain ⟨rfl, hσ⟩ := hp
    subst hσ
    dsimp only [zRet]
    rw [ht2]
    refine gx_iload (pc := 1466) dL_law_1466 rfl ?_
    refine gx_icmp_eq 1473 (pc := 1468) dL_law_1468 (by decide) (fun h1468 => ?_) (fun h1468 => ?_)
    · refine gx_iload (pc := 1473) dL_law_1473 rfl ?_
      refine gx_if_ne 1489 (pc := 1475) dL_law_1475 (by decide) (fun h1475 => ?_) (fun h1475 => ?_)
      · exact absurd rfl h1475
      · refine gx_aload_n (i := 3) (pc := 1478) dL_law_1478 rfl rfl ?_
        refine gx_iconst (nI 0) (pc := 1479) dL_law_1479 (by decide) ?_
        refine gx_laload 0 (pc := 1480) dL_law_1480 rfl rfl rfl (by decide) ?_
        rw [ho2]
        refine gx_lload (pc := 1481) dL_law_1481 rfl ?_
        refine gx_lcmp (pc := 1483) dL_law_1483 ?_
        refine gx_if_eq 1489 (pc := 1484) dL_law_1484 (by decide) (fun h1484 => ?_) (fun h1484 => ?_)
        · refine gx_goto 1492 (pc := 1489) dL_law_1489 (by decide) ?_
          refine gx_drop [0, 1, 2, 3, 4] rfl ?_
          exact hf _ _ _ _ _ _ _ _ _ _ _ _ _ hC2 hR2 hB.up (by omega) (by omega)
        · exact absurd ((lg_cmp_eq _ _).mpr rfl) h1484
    · exact absurd rfl h1468

