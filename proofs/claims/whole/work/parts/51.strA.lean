section GoTexts
variable {E : zE} {d : Nat} {own : String} {cc : ByteArray} {nL : Nat} {ret : Option FieldType} {P : Option Value → zT → Prop} {σ : zT} {pc : Nat} {lv : List (Nat × Value)} {st : List Value}
theorem go_ldcS {idx : Nat} {tx : String} (i : Nat) (ho : own = RX12) (hi : zTx[i]? = some (idx, tx)) (hd : decode cc pc = .ok (.ldc idx, 2)) (k : GoM E d own cc nL ret P σ (pc + 2) lv (.ref (zKs E i) :: st)) : GoM E d own cc nL ret P σ pc lv st := by
  subst ho
  intro l p e s m args below meth c H locs ls C hls hP hS
  exact va_ldcS C.1 C.2.1 C.2.2.2.2.2.1 (C.2.2.2.2.2.2.2.2.2.2.2.2.2.2.2.2.2.1 i idx tx hi) hd (k l p e s m args below meth c H locs ls C hls hP hS)
theorem go_ldcwS {idx : Nat} {tx : String} (i : Nat) (ho : own = RX12) (hi : zTx[i]? = some (idx, tx)) (hd : decode cc pc = .ok (.ldc_w idx, 3)) (k : GoM E d own cc nL ret P σ (pc + 3) lv (.ref (zKs E i) :: st)) : GoM E d own cc nL ret P σ pc lv st := by
  subst ho
  intro l p e s m args below meth c H locs ls C hls hP hS
  have hZ := C.2.2.2.2.2.2.2.2.2.2.2.2.2.2.2.2.2.1 i idx tx hi
  intro T hT X
  obtain ⟨t, a1, b1⟩ := k l p e s m args below meth c H locs ls C hls hP hS T hT X
  exact ⟨t, X.ldcStringW C.1 C.2.2.2.2.2.1 (text := tx) (a := zKs E i) hZ.1 hZ.2 (g := F0 m pc ls st) rfl (by rw [C.2.1]; exact hd) t a1, b1⟩
/-- fields of the texts -/
theorem go_tval {idx : Nat} (i : Nat) (hi : i < 8) (hw : Cond.fieldLink own idx "java/lang/String" "value" "[B" ∈ zG) (hd : decode cc pc = .ok (.getfield idx, 3)) (k : GoM E d own cc nL ret P σ (pc + 3) lv (.ref (zVs E i) :: st)) : GoM E d own cc nL ret P σ pc lv (.ref (zKs E i) :: st) := by
  intro l p e s m args below meth c H locs ls C hls hP hS
  have hZ := C.2.2.2.2.2.2.2.2.2.2.2.2.2.2.2.2.1
  exact vk_getf C.1 C.2.1 (hZ.1 i hi).2.2.1 hS C.2.2.2.2.2.1 (C.2.2.2.2.2.2.1 _ hw) (fun _ h => h) hd (k l p e s m args below meth c H locs ls C hls hP hS)
theorem go_tcod {idx : Nat} (i : Nat) (hi : i < 8) (hw : Cond.fieldLink own idx "java/lang/String" "coder" "B" ∈ zG) (hd : decode cc pc = .ok (.getfield idx, 3)) (k : GoM E d own cc nL ret P σ (pc + 3) lv (.int (nI 0) :: st)) : GoM E d own cc nL ret P σ pc lv (.ref (zKs E i) :: st) := by
  intro l p e s m args below meth c H locs ls C hls hP hS
  have hZ := C.2.2.2.2.2.2.2.2.2.2.2.2.2.2.2.2.1
  exact vk_getf C.1 C.2.1 (hZ.1 i hi).2.1 hS C.2.2.2.2.2.1 (C.2.2.2.2.2.2.1 _ hw) (fun _ h => h) hd (k l p e s m args below meth c H locs ls C hls hP hS)
theorem go_tcom {idx : Nat} (hw : Cond.fieldLink own idx "java/lang/String" "COMPACT_STRINGS" "Z" ∈ zG) (hd : decode cc pc = .ok (.getstatic idx, 3)) (k : GoM E d own cc nL ret P σ (pc + 3) lv (.int (nI 1) :: st)) : GoM E d own cc nL ret P σ pc lv st := by
  intro l p e s m args below meth c H locs ls C hls hP hS
  have hZ := C.2.2.2.2.2.2.2.2.2.2.2.2.2.2.2.1
  exact va_gets C.1 C.2.1 hZ hS C.2.2.2.2.2.1 (C.2.2.2.2.2.2.1 _ hw) (fun _ h => h) hd (k l p e s m args below meth c H locs ls C hls hP hS)
theorem go_tfmt {idx : Nat} (hw : Cond.fieldLink own idx "jdk/internal/util/Preconditions" "SIOOBE_FORMATTER" "Ljava/util/function/BiFunction;" ∈ zG) (hd : decode cc pc = .ok (.getstatic idx, 3)) (k0 : GoM E d own cc nL ret P σ (pc + 3) lv (.null :: st)) (k : ∀ t : Nat, GoM E d own cc nL ret P σ (pc + 3) lv (.ref t :: st)) : GoM E d own cc nL ret P σ pc lv st := by
  intro l p e s m args below meth c H locs ls C hls hP hS
  have hZ := C.2.2.2.2.2.2.2.2.2.2.2.2.2.2.2.2.2.2
  rcases hZ with hZ | ⟨t, hZ⟩
  · exact va_gets C.1 C.2.1 hZ hS C.2.2.2.2.2.1 (C.2.2.2.2.2.2.1 _ hw) (fun _ h => h) hd (k0 l p e s m args below meth c H locs ls C hls hP hS)
  · exact va_gets C.1 C.2.1 hZ hS C.2.2.2.2.2.1 (C.2.2.2.2.2.2.1 _ hw) (fun _ h => h) hd (k t l p e s m args below meth c H locs ls C hls hP hS)
theorem go_tlen (i : Nat) (hi : i < 8) (hd : decode cc pc = .ok (.arraylength, 1)) (k : GoM E d own cc nL ret P σ (pc + 1) lv (.int (nI (zLen.getD i 0)) :: st)) : GoM E d own cc nL ret P σ pc lv (.ref (zVs E i) :: st) := by
  intro l p e s m args below meth c H locs ls C hls hP hS
  have hZ := C.2.2.2.2.2.2.2.2.2.2.2.2.2.2.2.2.1
  exact va_tlen C.1 C.2.1 (hZ.1 i hi).2.2.2 hS (v := nI (zLen.getD i 0)) rfl hd (k l p e s m args below meth c H locs ls C hls hP hS)
theorem go_tbyt {x : Int32} (i j : Nat) (hi : i < 8) (hx : x = nI j) (hj : j < zLen.getD i 0) (hl : zLen.getD i 0 < 2 ^ 31) (hd : decode cc pc = .ok (.baload, 1)) (k : GoM E d own cc nL ret P σ (pc + 1) lv (.int ((zByt.getD i []).getD j 0) :: st)) : GoM E d own cc nL ret P σ pc lv (.int x :: .ref (zVs E i) :: st) := by
  subst hx
  intro l p e s m args below meth c H locs ls C hls hP hS
  have hZ := C.2.2.2.2.2.2.2.2.2.2.2.2.2.2.2.2.1
  exact va_tb C.1 C.2.1 (hZ.1 i hi).2.2.2 hS (vp_in_nI hj hl) (v := .int ((zByt.getD i []).getD j 0)) (by rw [nI_clamp (by omega)]) hd (k l p e s m args below meth c H locs ls C hls hP hS)
/-- a method of a text -/
theorem go_callT {P1 : Option Value → zT → Prop} {y : MethodName} {cb : ByteArray} {mL idx n d2 : Nat} {rt : Option FieldType} {As rest : List Value} (i : Nat) (hi : i < 8) (hl : Cond.methodLink own idx y ∈ zG) (hm : zMV y cb mL rt n) (hd : decode cc pc = .ok (.invokevirtual idx, 3))
    (hc : CalM E d2 y cb mL rt (.ref (zKs E i) :: As) σ P1) (hy : "java/lang/String" = y.cls) (hdd : d2 < d) (hL : mL ≤ 29) (hn : As.length = n) (hst : zPush (.ref (zKs E i) :: As) rest = st) (hw : (rest.map fun v => v.category).sum ≤ 8)
    (kk : ∀ (r : Option Value) (σ' : zT), P1 r σ' → GoM E d own cc nL ret P σ' (pc + 3) lv (zRet r rest)) : GoM E d own cc nL ret P σ pc lv st := by
  intro l p e s m args below meth c H locs ls C hls hP hS
  have hrecv := vk_recv C.2.2.2.2.2.2.2.2.2.2.2.2.2.2.2.2.1 hi hS
  rw [hy] at hrecv
  refine z_after C hls hS (va_runV (Ts := zG) (own := own) (C := y.cls) (b := zKs E i) (As := As) ⟨C.1, C.2.1, C.2.2.1, C.2.2.2.2.2.1, C.2.2.2.2.2.2.1⟩ (hc l) ⟨z_callB C.2.2.2.2.2.2.1 hl hm.1 ⟨hdd, by show 48 * d2 + 48 ≤ 48 * d; omega⟩ hL, C.2.2.2.2.2.2.1 _ hm.2.1, C.2.2.2.2.2.2.1 _ hm.2.2⟩ ⟨z_blind _, hrecv, fun U hU hW => ⟨rfl, z_preU C hP hS hU hW⟩⟩ rfl hn hls.1 ?_ (lv_room hw) hd ⟨Nat.le_refl 0, Nat.le_refl 0⟩) kk
  show st = As.reverse ++ .ref (zKs E i) :: rest
  rw [← hst, z_push]
  simp
end GoTexts
