/-! the layout of Lands and Rules by a variable group; numbers -/
theorem zL_ci {k : Nat} (h : zL k = true) : zci k = 2 := by simp [zci, h]
theorem zL_fT {k : Nat} (h : zL k = true) : zfT k = [(1, k, 1), (1, k, 2), (0, 0, 0), (0, 0, 0), (0, 0, 0), (0, 0, 0), (0, 0, 0), (0, 0, 0), (0, 0, 0), (0, 0, 0)] := by simp [zfT, h]
theorem zL_aT {k : Nat} (h : zL k = true) : zaT k = [(0, 12), (0, 12)] := by simp [zaT, h]
theorem zL_lt {k : Nat} (h : zL k = true) : k < 35 := by
  simp only [zL, Bool.or_eq_true, Bool.and_eq_true, Nat.ble_eq] at h
  omega
theorem zL_in {k j : Nat} (h : zL k = true) (hj : j ≤ 2) : zIn k j = true := by
  have h1 := zL_lt h
  have h34 : Nat.beq k 34 = false := by
    cases hb : Nat.beq k 34 with
    | false => rfl
    | true => rw [Nat.eq_of_beq_eq_true hb] at h; cases h
  simp only [zIn, zL_aT h, h34, Bool.and_false, Bool.not_false, Bool.and_true, Bool.and_eq_true, Nat.ble_eq, Nat.blt_eq]
  exact ⟨hj, h1⟩
theorem zL_fi {k f : Nat} (h : zL k = true) (hf : 2 ≤ f ∧ f < 10) : zfi 2 k f = true := by
  have e : zfk k f = (0, 0, 0) := by
    unfold zfk
    rw [zL_fT h]
    match f, hf with
    | 2, _ => rfl | 3, _ => rfl | 4, _ => rfl | 5, _ => rfl | 6, _ => rfl | 7, _ => rfl | 8, _ => rfl | 9, _ => rfl
    | 0, hf => omega
    | 1, hf => omega
    | n + 10, hf => omega
  simp [zfi, e, zL_ci h, zL_in h]
theorem zL_fr0 {k : Nat} (h : zL k = true) : zfk k 0 = (1, k, 1) := by unfold zfk; rw [zL_fT h]; rfl
theorem zL_fr1 {k : Nat} (h : zL k = true) : zfk k 1 = (1, k, 2) := by unfold zfk; rw [zL_fT h]; rfl
theorem zL_ar1 {k : Nat} (h : zL k = true) : zak k 1 = (0, 12) := by simp [zak, zL_aT h]
theorem zL_ar2 {k : Nat} (h : zL k = true) : zak k 2 = (0, 12) := by simp [zak, zL_aT h]
theorem zL_jn {k j : Nat} (h : zL k = true) (hj : j ≤ 2) (h0 : Nat.beq j 0 = false) : zJn k j = true := by simp [zJn, zL_in h hj, h0]
theorem zL_cq {k : Nat} (h : zL k = true) : vwCl[zci k]? = some (RX2, TX2, 10) := by rw [zL_ci h]; rfl
theorem zR_or {k : Nat} (h : zRl k = true) : k = 31 ∨ k = 32 := by
  simp only [zRl, Bool.or_eq_true] at h
  rcases h with h | h
  · exact Or.inl (Nat.eq_of_beq_eq_true h)
  · exact Or.inr (Nat.eq_of_beq_eq_true h)
theorem zR_ci {k : Nat} (h : zRl k = true) : zci k = 4 := by rcases zR_or h with rfl | rfl <;> rfl
theorem zR_in {k j : Nat} (h : zRl k = true) (hj : j ≤ 4) : zIn k j = true := by
  rcases zR_or h with rfl | rfl <;> (match j, hj with | 0, _ => rfl | 1, _ => rfl | 2, _ => rfl | 3, _ => rfl | 4, _ => rfl | n + 5, hj => omega)
theorem zR_fi {k f : Nat} (h : zRl k = true) (hf : 4 ≤ f ∧ f < 9) : zfi 4 k f = true := by
  rcases zR_or h with rfl | rfl <;> (match f, hf with | 4, _ => rfl | 5, _ => rfl | 6, _ => rfl | 7, _ => rfl | 8, _ => rfl | 0, hf => omega | 1, hf => omega | 2, hf => omega | 3, hf => omega | n + 9, hf => omega)
theorem zR_fr0 {k : Nat} (h : zRl k = true) : zfk k 0 = (1, k, 1) := by rcases zR_or h with rfl | rfl <;> rfl
theorem zR_fr1 {k : Nat} (h : zRl k = true) : zfk k 1 = (1, k, 2) := by rcases zR_or h with rfl | rfl <;> rfl
theorem zR_fr2 {k : Nat} (h : zRl k = true) : zfk k 2 = (1, k, 3) := by rcases zR_or h with rfl | rfl <;> rfl
theorem zR_fr3 {k : Nat} (h : zRl k = true) : zfk k 3 = (1, k, 4) := by rcases zR_or h with rfl | rfl <;> rfl
theorem zR_ar1 {k : Nat} (h : zRl k = true) : zak k 1 = (0, 40) := by rcases zR_or h with rfl | rfl <;> rfl
theorem zR_ar2 {k : Nat} (h : zRl k = true) : zak k 2 = (0, 40) := by rcases zR_or h with rfl | rfl <;> rfl
theorem zR_ar3 {k : Nat} (h : zRl k = true) : zak k 3 = (0, 40) := by rcases zR_or h with rfl | rfl <;> rfl
theorem zR_ar4 {k : Nat} (h : zRl k = true) : zak k 4 = (0, 5) := by rcases zR_or h with rfl | rfl <;> rfl
theorem zR_jn {k j : Nat} (h : zRl k = true) (hj : j ≤ 4) (h0 : Nat.beq j 0 = false) : zJn k j = true := by simp [zJn, zR_in h hj, h0]
theorem zR_cq {k : Nat} (h : zRl k = true) : vwCl[zci k]? = some (RX4, TX4, 9) := by rcases zR_or h with rfl | rfl <;> rfl
theorem zl_30 : ∀ b, b + 1 ≠ 1 → (zak 30 (b + 1)).1 ≠ 1 := by
  intro b hb
  match b, hb with
  | 0, hb => exact absurd rfl hb
  | b + 1, _ => exact (by decide : (9 : Nat) ≠ 1)
theorem zl_34 : ∀ b, b + 1 ≠ 1 → (zak 34 (b + 1)).1 ≠ 1 := by
  intro b hb
  match b, hb with
  | 0, hb => exact absurd rfl hb
  | b + 1, _ => exact (by decide : (9 : Nat) ≠ 1)
theorem zl_33 : ∀ b, b + 1 ≠ 1 → (zak 33 (b + 1)).1 ≠ 1 := by
  intro b hb
  have h : ∀ b : Nat, b < 26 → b ≠ 0 → ((zaT 33).getD b (9, 0)).1 ≠ 1 := by decide
  by_cases hl : b < 26
  · exact h b hl (by omega)
  · show ((zaT 33).getD b (9, 0)).1 ≠ 1
    rw [List.getD_eq_getElem?_getD, List.getElem?_eq_none (by show 26 ≤ b; omega)]
    decide
/-! numbers -/
theorem zn_eq0 {a : Nat} (h : a < 2 ^ 31) : nI a = 0 ↔ a = 0 := by rw [← nI_0, nI_eq h (by omega)]
theorem zn_lt0 {a : Nat} (h : a < 2 ^ 31) : nI a < 0 ↔ False := ⟨fun q => nI_pos h q, False.elim⟩
theorem zn_ge0 {a : Nat} (h : a < 2 ^ 31) : 0 ≤ nI a ↔ True := ⟨fun _ => trivial, fun _ => nI_pos' h⟩
theorem zn_gt0 {a : Nat} (h : a < 2 ^ 31) : 0 < nI a ↔ 0 < a := by rw [← nI_0, nI_ltI (by omega) h]
theorem zn_le0 {a : Nat} (h : a < 2 ^ 31) : nI a ≤ 0 ↔ a ≤ 0 := by rw [← nI_0, nI_leI h (by omega)]
def zb (b : Bool) : Int32 := bif b then nI 1 else nI 0
theorem zb_nar (b : Bool) : narrow .boolean (.int (zb b)) = .int (zb b) := by cases b <;> rfl
theorem zb_0 (b : Bool) : zb b = 0 ↔ b = false := by cases b <;> decide
theorem zb_t {b : Bool} (h : b = true) : zb b = nI 1 := by rw [h]; rfl
theorem zb_f {b : Bool} (h : b = false) : zb b = nI 0 := by rw [h]; rfl
section GoNums
variable {E : zE} {d : Nat} {own : String} {cc : ByteArray} {nL : Nat} {ret : Option FieldType} {P : Option Value → zT → Prop} {σ : zT} {pc : Nat} {lv : List (Nat × Value)} {st : List Value}
theorem go_iaddN {x y : Nat} (hd : decode cc pc = .ok (.iadd, 1)) (k : GoM E d own cc nL ret P σ (pc + 1) lv (.int (nI (x + y)) :: st)) : GoM E d own cc nL ret P σ pc lv (.int (nI y) :: .int (nI x) :: st) := go_iadd hd (by rw [nI_add]; exact k)
theorem go_imulN {x y : Nat} (hd : decode cc pc = .ok (.imul, 1)) (k : GoM E d own cc nL ret P σ (pc + 1) lv (.int (nI (x * y)) :: st)) : GoM E d own cc nL ret P σ pc lv (.int (nI y) :: .int (nI x) :: st) := go_imul hd (by rw [pk_mul]; exact k)
theorem go_isubN {x y : Nat} (hd : decode cc pc = .ok (.isub, 1)) (h : y ≤ x) (k : GoM E d own cc nL ret P σ (pc + 1) lv (.int (nI (x - y)) :: st)) : GoM E d own cc nL ret P σ pc lv (.int (nI y) :: .int (nI x) :: st) := go_isub hd (by rw [pk_sub h]; exact k)
theorem go_iincN {i x : Nat} (hd : decode cc pc = .ok (.iinc i 1, 3)) (hx : zLk lv i = some (.int (nI x))) (hn : i < nL) (k : GoM E d own cc nL ret P σ (pc + 3) (zSt1 lv i (.int (nI (x + 1)))) st) : GoM E d own cc nL ret P σ pc lv st := go_iinc (nI (x + 1)) hd hx (nI_1 x) hn k
theorem go_drop (ks : List Nat) {lv2 : List (Nat × Value)} (hl : lv_pick lv ks = lv2) (k : GoM E d own cc nL ret P σ pc lv2 st) : GoM E d own cc nL ret P σ pc lv st :=
  fun l p e s m args below meth c H locs ls C h0 hP hS => k l p e s m args below meth c H locs ls C (lv_sub h0 ks hl) hP hS
theorem go_getr2 {idx ci f k a b : Nat} (hw : zFL own idx ci f) (hd : decode cc pc = .ok (.getfield idx, 3)) (hk : zci k = ci) (hin : zIn k 0 = true) (hf : zfk k f = (1, a, b)) (kk : GoM E d own cc nL ret P σ (pc + 3) lv (.ref (zA E a b) :: st)) : GoM E d own cc nL ret P σ pc lv (.ref (zA E k 0) :: st) :=
  go_get _ hw hd hk hin (z_fl (by rw [hf]; exact (by decide : (1 : Nat) ≠ 9))) (by simp only [zval, hf]) kk
end GoNums
theorem zi_lt (a b : Int32) : a < b ↔ a.toInt < b.toInt := Int32.lt_iff_toInt_lt
theorem zi_le (a b : Int32) : a ≤ b ↔ a.toInt ≤ b.toInt := Int32.le_iff_toInt_le
theorem zi_eq (a b : Int32) : a = b ↔ a.toInt = b.toInt := Int32.toInt_inj.symm
theorem zi_ltN {a : Int32} {n : Nat} (h : n < 2 ^ 31) : a < nI n ↔ a.toInt < (n : Int) := by rw [zi_lt, nI_toInt h]
theorem zi_Nlt {a : Int32} {n : Nat} (h : n < 2 ^ 31) : nI n < a ↔ (n : Int) < a.toInt := by rw [zi_lt, nI_toInt h]
theorem zi_leN {a : Int32} {n : Nat} (h : n < 2 ^ 31) : a ≤ nI n ↔ a.toInt ≤ (n : Int) := by rw [zi_le, nI_toInt h]
theorem zi_Nle {a : Int32} {n : Nat} (h : n < 2 ^ 31) : nI n ≤ a ↔ (n : Int) ≤ a.toInt := by rw [zi_le, nI_toInt h]
theorem zi_eqN {a : Int32} {n : Nat} (h : n < 2 ^ 31) : a = nI n ↔ a.toInt = (n : Int) := by rw [zi_eq, nI_toInt h]
theorem zi_Neq {a : Int32} {n : Nat} (h : n < 2 ^ 31) : nI n = a ↔ (n : Int) = a.toInt := by rw [zi_eq, nI_toInt h]
theorem zi_lt0 (a : Int32) : a < 0 ↔ a.toInt < 0 := zi_lt a 0
theorem zi_ge0 (a : Int32) : 0 ≤ a ↔ 0 ≤ a.toInt := zi_le 0 a
theorem zi_gt0 (a : Int32) : 0 < a ↔ 0 < a.toInt := zi_lt 0 a
theorem zi_le0 (a : Int32) : a ≤ 0 ↔ a.toInt ≤ 0 := zi_le a 0
theorem zi_eq0 (a : Int32) : a = 0 ↔ a.toInt = 0 := zi_eq a 0
theorem zr_t {p : Prop} [Decidable p] (h : p) : some (Value.int (nI 1)) = some (Value.int (zb (decide p))) := by rw [zb_t (decide_eq_true h)]
theorem zr_f {p : Prop} [Decidable p] (h : ¬ p) : some (Value.int (nI 0)) = some (Value.int (zb (decide p))) := by rw [zb_f (decide_eq_false h)]
theorem zb_0d {p : Prop} [Decidable p] : zb (decide p) = 0 ↔ ¬ p := by rw [zb_0]; simp
theorem nI_of' {x : Int32} (h : 0 ≤ x.toInt) : x = nI x.toInt.toNat := by
  have h2 : x.toInt < 2 ^ 31 := Int32.toInt_lt x
  rw [zi_eq, nI_toInt (by omega)]
  omega
