theorem zt1 {w : Cond} (i : Nat) (h : tables_1_1[i]? = some w) : w ∈ lw_tbl := List.mem_append_right _ (List.mem_append_left _ (List.mem_of_getElem? h))
theorem zt2 {w : Cond} (i : Nat) (h : tables_1_2[i]? = some w) : w ∈ lw_tbl := List.mem_append_right _ (List.mem_append_right _ (List.mem_append_left _ (List.mem_of_getElem? h)))
theorem zt3 {w : Cond} (i : Nat) (h : tables_1_3[i]? = some w) : w ∈ lw_tbl := List.mem_append_right _ (List.mem_append_right _ (List.mem_append_right _ (List.mem_append_left _ (List.mem_of_getElem? h))))
theorem zt4 {w : Cond} (i : Nat) (h : tables_1_4[i]? = some w) : w ∈ lw_tbl := List.mem_append_right _ (List.mem_append_right _ (List.mem_append_right _ (List.mem_append_right _ (List.mem_append_left _ (List.mem_of_getElem? h)))))
theorem zt5 {w : Cond} (i : Nat) (h : tables_1_5[i]? = some w) : w ∈ lw_tbl := List.mem_append_right _ (List.mem_append_right _ (List.mem_append_right _ (List.mem_append_right _ (List.mem_append_right _ (List.mem_append_left _ (List.mem_of_getElem? h))))))
theorem zt6 {w : Cond} (i : Nat) (h : tables_1_6[i]? = some w) : w ∈ lw_tbl := List.mem_append_right _ (List.mem_append_right _ (List.mem_append_right _ (List.mem_append_right _ (List.mem_append_right _ (List.mem_append_right _ (List.mem_append_left _ (List.mem_of_getElem? h)))))))
theorem zt7 {w : Cond} (i : Nat) (h : tables_1_7[i]? = some w) : w ∈ lw_tbl := List.mem_append_right _ (List.mem_append_right _ (List.mem_append_right _ (List.mem_append_right _ (List.mem_append_right _ (List.mem_append_right _ (List.mem_append_right _ (List.mem_append_left _ (List.mem_of_getElem? h))))))))
theorem zt8 {w : Cond} (i : Nat) (h : tables_1_8[i]? = some w) : w ∈ lw_tbl := List.mem_append_right _ (List.mem_append_right _ (List.mem_append_right _ (List.mem_append_right _ (List.mem_append_right _ (List.mem_append_right _ (List.mem_append_right _ (List.mem_append_right _ (List.mem_of_getElem? h))))))))
theorem env_cls {s : State} {args : Array Value} (hts : ∀ w ∈ zG, w.before args s = true) : ∃ G : va_G, ∀ (c : Nat) (q : vw_C), vwCl[c]? = some q → u_Kn s q.1 q.2.1 q.2.2 (G.1 c) (G.2 c) := by
  have hex : ∀ k : Nat, ∃ d : ClassId × (Nat → Nat), ∀ q : vw_C, vwCl[k]? = some q → u_Kn s q.1 q.2.1 q.2.2 d.1 d.2 := by
    intro k
    match k with
    | 0 =>
      obtain ⟨c, iS, h⟩ := u_known (C := RX0) (T := TX0) (N := 3) (n := 3) hts zin0 (hts _ (zg1 49 rfl rfl))
      exact ⟨(c, iS), fun q hq => by have e : some (RX0, TX0, 3) = some q := hq; cases e; exact h⟩
    | 1 =>
      obtain ⟨c, iS, h⟩ := u_known (C := RX1) (T := TX1) (N := 7) (n := 7) hts zin1 (hts _ (zg1 94 rfl rfl))
      exact ⟨(c, iS), fun q hq => by have e : some (RX1, TX1, 7) = some q := hq; cases e; exact h⟩
    | 2 =>
      obtain ⟨c, iS, h⟩ := u_known (C := RX2) (T := TX2) (N := 10) (n := 10) hts zin2 (hts _ (zg1 122 rfl rfl))
      exact ⟨(c, iS), fun q hq => by have e : some (RX2, TX2, 10) = some q := hq; cases e; exact h⟩
    | 3 =>
      obtain ⟨c, iS, h⟩ := u_known (C := RX3) (T := TX3) (N := 3) (n := 3) hts zin3 (hts _ (zg1 159 rfl rfl))
      exact ⟨(c, iS), fun q hq => by have e : some (RX3, TX3, 3) = some q := hq; cases e; exact h⟩
    | 4 =>
      obtain ⟨c, iS, h⟩ := u_known (C := RX4) (T := TX4) (N := 9) (n := 9) hts zin4 (hts _ (zg1 223 rfl rfl))
      exact ⟨(c, iS), fun q hq => by have e : some (RX4, TX4, 9) = some q := hq; cases e; exact h⟩
    | 5 =>
      obtain ⟨c, iS, h⟩ := u_known (C := RX5) (T := TX5) (N := 3) (n := 3) hts zin5 (hts _ (zg1 193 rfl rfl))
      exact ⟨(c, iS), fun q hq => by have e : some (RX5, TX5, 3) = some q := hq; cases e; exact h⟩
    | 6 =>
      obtain ⟨c, iS, h⟩ := u_known (C := RX6) (T := TX6) (N := 2) (n := 2) hts zin6 (hts _ (zg1 178 rfl rfl))
      exact ⟨(c, iS), fun q hq => by have e : some (RX6, TX6, 2) = some q := hq; cases e; exact h⟩
    | 7 =>
      obtain ⟨c, iS, h⟩ := u_known (C := RX7) (T := TX7) (N := 2) (n := 2) hts zin7 (hts _ (zg1 65 rfl rfl))
      exact ⟨(c, iS), fun q hq => by have e : some (RX7, TX7, 2) = some q := hq; cases e; exact h⟩
    | 8 =>
      obtain ⟨c, iS, h⟩ := u_known (C := RX8) (T := TX8) (N := 2) (n := 2) hts zin8 (hts _ (zg1 35 rfl rfl))
      exact ⟨(c, iS), fun q hq => by have e : some (RX8, TX8, 2) = some q := hq; cases e; exact h⟩
    | 9 =>
      obtain ⟨c, iS, h⟩ := u_known (C := RX9) (T := TX9) (N := 2) (n := 2) hts zin9 (hts _ (zg1 209 rfl rfl))
      exact ⟨(c, iS), fun q hq => by have e : some (RX9, TX9, 2) = some q := hq; cases e; exact h⟩
    | 10 =>
      obtain ⟨c, iS, h⟩ := u_known (C := RX10) (T := TX10) (N := 3) (n := 3) hts zin10 (hts _ (zg1 78 rfl rfl))
      exact ⟨(c, iS), fun q hq => by have e : some (RX10, TX10, 3) = some q := hq; cases e; exact h⟩
    | 11 =>
      obtain ⟨c, iS, h⟩ := u_known (C := RX11) (T := TX11) (N := 17) (n := 17) hts zin11 (hts _ (zg1 27 rfl rfl))
      exact ⟨(c, iS), fun q hq => by have e : some (RX11, TX11, 17) = some q := hq; cases e; exact h⟩
    | 12 =>
      obtain ⟨c, iS, h⟩ := u_known (C := RX12) (T := TX12) (N := 46) (n := 46) hts zin12 (hts _ (zg5 143 rfl rfl))
      exact ⟨(c, iS), fun q hq => by have e : some (RX12, TX12, 46) = some q := hq; cases e; exact h⟩
    | n + 13 => exact ⟨(0, fun _ => 0), fun q hq => by have e : (none : Option vw_C) = some q := hq; cases e⟩
  obtain ⟨f, hf⟩ := Classical.axiomOfChoice hex
  exact ⟨(fun k => (f k).1, fun k => (f k).2), fun c q hq => hf c q hq⟩
theorem env_arr1 {s : State} {args : Array Value} {ty : FieldType} (hne : ∀ C, ty ≠ .object C) (h : (Cond.arrayClass ty).before args s = true) : ∃ c : ClassId, ArrOfT s c ty ∧ va_RA s c ty := by
  obtain ⟨c, k, comp, h1, h2, h3⟩ := Cond.arrayClass_spec h
  refine ⟨c, fun n z => ⟨fun k h => (by cases h), k, h2, comp, h3⟩, ?_⟩
  cases ty with
  | object C => exact absurd rfl (hne C)
  | _ => exact h1
theorem env_arr {s : State} {args : Array Value} (hts : ∀ w ∈ zG, w.before args s = true) (ho : (Cond.arrayOver (.object RX2)).before args s = true) : ∃ Cc : Nat → ClassId, ∀ (k : Nat) (q : ClassId × FieldType), ([(Cc 0, .int), (Cc 1, .long), (Cc 2, .boolean), (Cc 3, .object RX2)] : List (ClassId × FieldType))[k]? = some q → ArrOfT s q.1 q.2 ∧ va_RA s q.1 q.2 := by
  obtain ⟨c0, h0⟩ := env_arr1 (ty := .int) (fun _ h => by cases h) (hts _ za_int)
  obtain ⟨c1, h1⟩ := env_arr1 (ty := .long) (fun _ h => by cases h) (hts _ za_long)
  obtain ⟨c2, h2⟩ := env_arr1 (ty := .boolean) (fun _ h => by cases h) (hts _ za_bool)
  obtain ⟨comp, c3, k3, o1, o2, o3, o4, o5⟩ := Cond.arrayOver_spec ho
  refine ⟨fun i => match i with | 0 => c0 | 1 => c1 | 2 => c2 | _ => c3, fun k q hq => ?_⟩
  match k, hq with
  | 0, hq => cases hq; exact h0
  | 1, hq => cases hq; exact h1
  | 2, hq => cases hq; exact h2
  | 3, hq => cases hq; exact ⟨fun n z => ⟨fun k h => (by cases h), k3, o3, comp, o4⟩, k3, comp, o3, o4, o1, o5⟩
  | k + 4, hq => simp at hq

def tmS (i : Nat) : Term := .string RX12 ((zTx.getD i (0, "")).1)
theorem fl_ex : ∀ i, i < 8 → Cond.exactly (tmS i) "java/lang/String" ∈ flatC (Jvm.Cond.and given_1 narrow_1) := by decide +kernel
theorem fl_co : ∀ i, i < 8 → Cond.eq (.field (tmS i) "java/lang/String" "coder" "B") (.int 0) ∈ flatC (Jvm.Cond.and given_1 narrow_1) := by decide +kernel
theorem fl_ar : ∀ i, i < 8 → Cond.arrayOf (.field (tmS i) "java/lang/String" "value" "[B") .byte ∈ flatC (Jvm.Cond.and given_1 narrow_1) := by decide +kernel
theorem fl_le : ∀ i, i < 8 → Cond.eq (.length (.field (tmS i) "java/lang/String" "value" "[B")) (.int (Int32.ofNat (zLen.getD i 0))) ∈ flatC (Jvm.Cond.and given_1 narrow_1) := by decide +kernel
theorem fl_el : ∀ i, i < 8 → ∀ j, j < zLen.getD i 0 → Cond.eq (.elem (.field (tmS i) "java/lang/String" "value" "[B") (.int (Int32.ofNat j))) (.int ((zByt.getD i []).getD j 0)) ∈ flatC (Jvm.Cond.and given_1 narrow_1) := by decide +kernel
theorem fl_ne : ∀ i, i < 8 → ∀ j, j < 8 → i ≠ j → (Cond.not (Cond.eq (tmS i) (tmS j)) ∈ flatC (Jvm.Cond.and given_1 narrow_1) ∨ Cond.not (Cond.eq (tmS j) (tmS i)) ∈ flatC (Jvm.Cond.and given_1 narrow_1)) := by decide +kernel
theorem fl_ua : Cond.arrayOf (.static RX4 "USUAL" "[I") .int ∈ flatC (Jvm.Cond.and given_1 narrow_1) := by decide +kernel
theorem fl_ul : Cond.eq (.length (.static RX4 "USUAL" "[I")) (.int (Int32.ofNat 7)) ∈ flatC (Jvm.Cond.and given_1 narrow_1) := by decide +kernel
theorem fl_ue : ∀ j, j < 7 → Cond.eq (.elem (.static RX4 "USUAL" "[I") (.int (Int32.ofNat j))) (.int (zUs j)) ∈ flatC (Jvm.Cond.and given_1 narrow_1) := by decide +kernel
theorem fl_cs : Cond.eq (.static "java/lang/String" "COMPACT_STRINGS" "Z") (.int 1) ∈ flatC (Jvm.Cond.and given_1 narrow_1) := by decide +kernel
theorem fl_si : Cond.isRef (.static "jdk/internal/util/Preconditions" "SIOOBE_FORMATTER" "Ljava/util/function/BiFunction;") ∈ flatC (Jvm.Cond.and given_1 narrow_1) := by decide +kernel
theorem fl_us : Cond.isRef (.static Bundle.tN "UNASSIGNED_STACK" Bundle.steD) ∈ flatC (Jvm.Cond.and given_1 narrow_1) := by decide +kernel
theorem fl_ss : Cond.isRef (.static Bundle.tN "SUPPRESSED_SENTINEL" Bundle.listD) ∈ flatC (Jvm.Cond.and given_1 narrow_1) := by decide +kernel

theorem env_all {s : State} {b : Nat} (hts : ∀ w ∈ lw_tbl, w.before #[Value.ref b] s = true) (hgv : (Jvm.Cond.and given_1 narrow_1).before #[Value.ref b] s = true) : ∃ E : zE, zS E = s.heap.size ∧ va_K (zD E) vwCl (zTy E) s ∧ kF E s s.heap ∧ zX E s s.heap := by
  have hs := flat_of_before _ hgv
  have hG : ∀ w ∈ zG, w.before #[Value.ref b] s = true := fun w hw => hts w (zG_tbl w hw)
  have hA : ∀ a : Nat, a < s.heap.size → ¬ (fun q : Nat => s.heap.size ≤ q) a := fun a h => Nat.not_le.mpr h
  have hov : (Cond.arrayOver (.object RX2)).before #[Value.ref b] s = true := (hts _ (zt1 165 rfl))
  obtain ⟨G, hK1⟩ := env_cls hG
  obtain ⟨Cc, hK2⟩ := env_arr hG hov
  obtain ⟨u, hu, hT⟩ := va_Tof (tm := .static RX4 "USUAL" "[I") (ty := .int) (N := 7) (f := fun j => .int (zUs j)) (A := fun q : Nat => s.heap.size ≤ q) (by decide) (hs _ fl_ua) (va_eqt (hs _ fl_ul)) (fun j hj => va_eqt (hs _ (fl_ue j hj))) hA
  have hZu : va_Z RX4 "USUAL" "[I" (.ref u) (fun q : Nat => s.heap.size ≤ q) s s.heap := va_Zof (hts _ (zt1 233 rfl)) (hts _ (zt1 12 rfl)) hu hA
  obtain ⟨ks, vs, hS, hev⟩ := vk_Sof (args := #[Value.ref b]) (s := s) (N := 8) (tm := tmS) (len := zLen) (byt := zByt) (A := fun q : Nat => s.heap.size ≤ q) (by decide) (fun i hi => hs _ (fl_ex i hi)) (fun i hi => hs _ (fl_co i hi)) (fun i hi => hs _ (fl_ar i hi)) (fun i hi => hs _ (fl_le i hi)) (fun i hi j hj => hs _ (fl_el i hi j hj)) (fun i j hi hj hn => (fl_ne i hi j hj hn).imp (fun h => hs _ h) (fun h => hs _ h)) hA
  have hZc : va_Z "java/lang/String" "COMPACT_STRINGS" "Z" (.int 1) (fun q : Nat => s.heap.size ≤ q) s s.heap := va_Zof (hts _ (zt6 90 rfl)) (hts _ (zt1 16 rfl)) (va_eqt (hs _ fl_cs)) hA
  have hZp := va_Zqof (A := fun q : Nat => s.heap.size ≤ q) (hts _ (zt6 106 rfl)) (hts _ (zt1 18 rfl)) (hs _ fl_si) hA
  have hR : ∀ (i k : Nat) (tx : String), zTx[i]? = some (k, tx) → vk_R RX12 k tx (ks i) s := by
    intro i k tx e
    match i, e with
    | 0, e => cases e; exact vk_R.of (A := #[.ref b]) (hts _ (zt6 67 rfl)) (hev 0 (by decide))
    | 1, e => cases e; exact vk_R.of (A := #[.ref b]) (hts _ (zt6 141 rfl)) (hev 1 (by decide))
    | 2, e => cases e; exact vk_R.of (A := #[.ref b]) (hts _ (zt6 200 rfl)) (hev 2 (by decide))
    | 3, e => cases e; exact vk_R.of (A := #[.ref b]) (hts _ (zt6 201 rfl)) (hev 3 (by decide))
    | 4, e => cases e; exact vk_R.of (A := #[.ref b]) (hts _ (zt6 202 rfl)) (hev 4 (by decide))
    | 5, e => cases e; exact vk_R.of (A := #[.ref b]) (hts _ (zt6 203 rfl)) (hev 5 (by decide))
    | 6, e => cases e; exact vk_R.of (A := #[.ref b]) (hts _ (zt7 125 rfl)) (hev 6 (by decide))
    | 7, e => cases e; exact vk_R.of (A := #[.ref b]) (hts _ (zt7 126 rfl)) (hev 7 (by decide))
    | i + 8, e => simp [zTx] at e
  refine ⟨(G, Cc, fun _ _ => 0, s.heap.size, u, ks, vs), rfl, ⟨hK1, hK2⟩, ⟨⟨va_Nw.of rfl (hts _ (zt2 141 rfl)), va_Nw.of rfl (hts _ (zt3 65 rfl)), va_Nw.of rfl (hts _ (zt2 203 rfl)), hZu, hT, hZc, hS, hR, hZp⟩, ?_, va_AO.of hov⟩, va_Nw.of rfl (hts _ (zt5 56 rfl)), va_Nw.of rfl (hts _ (zt5 58 rfl)), va_Nw.of rfl (hts _ (zt5 60 rfl)), va_Nw.of rfl (hts _ (zt5 55 rfl)), vx_Zqof (hts _ (zt5 80 rfl)) (hts _ (zt1 20 rfl)) (hs _ fl_us) hA, vx_Zqof (hts _ (zt5 82 rfl)) (hts _ (zt1 20 rfl)) (hs _ fl_ss) hA⟩
  exact List.forall_mem_cons.mpr ⟨va_Nw.of rfl (hts _ (zt1 36 rfl)), List.forall_mem_cons.mpr ⟨va_Nw.of rfl (hts _ (zt1 50 rfl)), List.forall_mem_cons.mpr ⟨va_Nw.of rfl (hts _ (zt1 79 rfl)), List.forall_mem_cons.mpr ⟨va_Nw.of rfl (hts _ (zt1 123 rfl)), List.forall_mem_cons.mpr ⟨va_Nw.of rfl (hts _ (zt1 194 rfl)), List.forall_mem_cons.mpr ⟨va_Nw.of rfl (hts _ (zt1 210 rfl)), List.forall_mem_cons.mpr ⟨va_Nw.of rfl (hts _ (zt1 166 rfl)), List.forall_mem_cons.mpr ⟨va_Nw.of rfl (hts _ (zt1 184 rfl)), fun _ h => absurd h List.not_mem_nil⟩⟩⟩⟩⟩⟩⟩⟩

