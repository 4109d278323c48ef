/-! arithmetic over bounds -/
def sx_b (E : sxE) (x : sxV) : Option (Int × Int) := match x with
  | (.inl (s, c)) => (E.1[s]?).map (fun b => (b.1 + c, b.2 + c))
  | (.inr (.inl c)) => some (c, c)
  | _ => none
def sx_mk (E : sxE) (b : Int × Int) : sxV × sxE := if (-2147483648) ≤ b.1 ∧ b.2 ≤ 2147483647 then sx_ni E b.1 b.2 else sx_ni E (-2147483648) 2147483647
def sx_add (E : sxE) (x : sxV) (d : Int) : Option (sxV × sxE) := match x with
  | (.inl (s, c)) => (E.1[s]?).map (fun b => if (-2147483648) ≤ b.1 + (c + d) ∧ b.2 + (c + d) ≤ 2147483647 then ((.inl (s, (c + d))), E) else sx_ni E (-2147483648) 2147483647)
  | (.inr (.inl c)) => some (if (-2147483648) ≤ c + d ∧ c + d ≤ 2147483647 then ((.inr (.inl (c + d))), E) else sx_ni E (-2147483648) 2147483647)
  | _ => none
def sx_ct (x : sxV) : Nat := match x with
  | (.inr (.inr (.inl _))) => 2
  | _ => 1
theorem sx_cons {W : sxW} {x : sxV} {xs : List sxV} {st : List Value} (h : sx_vs W (x :: xs) st) : ∃ v vs, st = v :: vs ∧ sx_v W x v ∧ sx_vs W xs vs := by
  cases st with
  | nil => exact h.elim
  | cons v vs => exact ⟨v, vs, rfl, h.1, h.2⟩
theorem sx_nil {W : sxW} {st : List Value} (h : sx_vs W [] st) : st = [] := by
  cases st with
  | nil => rfl
  | cons v vs => exact h.elim
theorem va_rf_cat (o : Option Nat) : (va_rf o).category = 1 := by cases o <;> rfl
theorem sx_cto {W : sxW} {x : sxV} {v : Value} (h : sx_v W x v) : v.category = sx_ct x := by
  rcases x with ⟨s, c⟩ | c | s | (_ | s)
  · obtain ⟨z, y, rfl, -⟩ := h; rfl
  · obtain ⟨z, rfl, -⟩ := h; rfl
  · obtain ⟨y, rfl, -⟩ := h; rfl
  · cases h; rfl
  · obtain ⟨o, rfl, -⟩ := h; exact va_rf_cat o
theorem sx_rg (z : Int32) : (-2147483648) ≤ z.toInt ∧ z.toInt ≤ 2147483647 := by
  have h1 := Int32.le_toInt z
  have h2 := Int32.toInt_lt z
  constructor <;> omega
theorem sx_rgL (z : Int64) : (-9223372036854775808) ≤ z.toInt ∧ z.toInt ≤ 9223372036854775807 := by
  have h1 := Int64.le_toInt z
  have h2 := Int64.toInt_lt z
  constructor <;> omega
theorem sx_bm {a : Int} (h1 : (-2147483648) ≤ a) (h2 : a ≤ 2147483647) : a.bmod (2 ^ 32) = a := Int.bmod_eq_of_le (by omega) (by omega)
section SX2
variable {U : sxU} {W : sxW} {E : sxE} {M : rf_M}
theorem sx_bo (hE : sx_e U W E M) {x : sxV} {b : Int × Int} {v : Value} (hb : sx_b E x = some b) (hv : sx_v W x v) : ∃ z : Int32, v = .int z ∧ b.1 ≤ z.toInt ∧ z.toInt ≤ b.2 := by
  rcases x with ⟨s, c⟩ | c | s | (_ | s)
  · obtain ⟨z, y, h1, h2, h3⟩ := hv
    obtain ⟨b0, q1, rfl⟩ := Option.map_eq_some_iff.mp hb
    obtain ⟨y', q2, q3, q4⟩ := hE.2.2.2.1 s b0 q1
    rw [h2] at q2
    cases q2
    exact ⟨z, h1, by dsimp only; omega, by dsimp only; omega⟩
  · obtain ⟨z, h1, h2⟩ := hv
    cases hb
    exact ⟨z, h1, by dsimp only; omega, by dsimp only; omega⟩
  · cases hb
  · cases hb
  · cases hb
theorem sx_mko (hE : sx_e U W E M) {b : Int × Int} (z : Int32) (h : (-2147483648) ≤ b.1 → b.2 ≤ 2147483647 → b.1 ≤ z.toInt ∧ z.toInt ≤ b.2) : ∃ W', sx_le W W' ∧ sx_e U W' (sx_mk E b).2 M ∧ sx_v W' (sx_mk E b).1 (.int z) := by
  unfold sx_mk
  split
  · rename_i hc
    obtain ⟨q1, q2⟩ := h hc.1 hc.2
    exact sx_fi hE z q1 q2
  · exact sx_fi hE z (sx_rg z).1 (sx_rg z).2
theorem sx_flo (hE : sx_e U W E M) (z : Int64) : ∃ W', sx_le W W' ∧ sx_e U W' (sx_nl E (-9223372036854775808) 9223372036854775807 false).2 M ∧ sx_v W' (sx_nl E (-9223372036854775808) 9223372036854775807 false).1 (.long z) := sx_fl hE z (sx_rgL z).1 (sx_rgL z).2 (fun h => by cases h)
theorem sx_addo (hE : sx_e U W E M) {x : sxV} {d : Int} {q : sxV × sxE} (h : sx_add E x d = some q) {z u : Int32} (hv : sx_v W x (.int z)) (hu : u.toInt = (z.toInt + d).bmod (2 ^ 32)) : ∃ W', sx_le W W' ∧ sx_e U W' q.2 M ∧ sx_v W' q.1 (.int u) := by
  rcases x with ⟨s, c⟩ | c | s | (_ | s)
  · obtain ⟨z', y, h1, h2, h3⟩ := hv
    cases h1
    obtain ⟨b, q1, rfl⟩ := Option.map_eq_some_iff.mp h
    obtain ⟨y', q2, q3, q4⟩ := hE.2.2.2.1 s b q1
    rw [h2] at q2
    cases q2
    split
    · rename_i hc
      refine ⟨W, sx_le_rfl W, hE, u, y, rfl, h2, ?_⟩
      rw [hu, h3, sx_bm (by omega) (by omega)]
      omega
    · exact sx_fi hE u (sx_rg u).1 (sx_rg u).2
  · obtain ⟨z', h1, h3⟩ := hv
    cases h1
    unfold sx_add at h
    cases h
    split
    · rename_i hc
      refine ⟨W, sx_le_rfl W, hE, u, rfl, ?_⟩
      rw [hu, h3, sx_bm (by omega) (by omega)]
    · exact sx_fi hE u (sx_rg u).1 (sx_rg u).2
  · cases h
  · cases h
  · cases h
end SX2
/-- bounds of an operation of two ints; none: it may divide by 0 -/
def sx_iv (J : Instr) (a b : Int × Int) : Option (Int × Int) := match J with
  | .iadd => some (a.1 + b.1, a.2 + b.2)
  | .isub => some (a.1 - b.2, a.2 - b.1)
  | .imul => some (if 0 ≤ a.1 ∧ 0 ≤ b.1 then (a.1 * b.1, a.2 * b.2) else ((-2147483648), 2147483647))
  | .iand => some (if 0 ≤ b.1 then (0, b.2) else ((-2147483648), 2147483647))
  | .ior => some ((-2147483648), 2147483647)
  | .ixor => some ((-2147483648), 2147483647)
  | .ishl => some ((-2147483648), 2147483647)
  | .ishr => some (if 0 ≤ a.1 then (0, a.2) else ((-2147483648), 2147483647))
  | .iushr => some ((-2147483648), 2147483647)
  | .idiv => if b.1 ≤ 0 ∧ 0 ≤ b.2 then none else some ((-2147483648), 2147483647)
  | .irem => if b.1 ≤ 0 ∧ 0 ≤ b.2 then none else some ((-2147483648), 2147483647)
  | _ => none
theorem sx_and_le (x y : Int32) (h : 0 ≤ y.toInt) : 0 ≤ (x &&& y).toInt ∧ (x &&& y).toInt ≤ y.toInt := by
  have hy : y.toBitVec.msb = false := by
    rcases hm : y.toBitVec.msb with _ | _
    · rfl
    · have := BitVec.toInt_neg_of_msb_true hm
      have h2 : 0 ≤ y.toBitVec.toInt := h
      omega
  have hz : (x &&& y).toBitVec = x.toBitVec &&& y.toBitVec := rfl
  have hm : (x.toBitVec &&& y.toBitVec).msb = false := by rw [BitVec.msb_and, hy, Bool.and_false]
  have e1 : (x &&& y).toInt = ((x.toBitVec &&& y.toBitVec).toNat : Int) := BitVec.toInt_eq_toNat_of_msb hm
  have e2 : y.toInt = (y.toBitVec.toNat : Int) := BitVec.toInt_eq_toNat_of_msb hy
  have e3 : (x.toBitVec &&& y.toBitVec).toNat ≤ y.toBitVec.toNat := by rw [BitVec.toNat_and]; exact Nat.and_le_right
  omega
theorem sx_shr_le (x y : Int32) (h : 0 ≤ x.toInt) : 0 ≤ (x >>> (y &&& 31)).toInt ∧ (x >>> (y &&& 31)).toInt ≤ x.toInt := by
  have e : (x >>> (y &&& 31)).toInt = x.toInt >>> ((y &&& 31).toBitVec.smod 32).toNat := by
    show (BitVec.sshiftRight x.toBitVec ((y &&& 31).toBitVec.smod 32).toNat).toInt = _
    exact BitVec.toInt_sshiftRight
  rw [e, Int.shiftRight_eq_div_pow]
  have hp : (0 : Int) < ((2 ^ ((y &&& 31).toBitVec.smod 32).toNat : Nat) : Int) := by exact_mod_cast Nat.two_pow_pos _
  exact ⟨Int.ediv_nonneg h (Int.le_of_lt hp), Int.ediv_le_self _ h⟩
theorem sx_ivo {J : Instr} {a b q : Int × Int} {x y : Int32} {r : List Value} (h : sx_iv J a b = some q) (hx1 : a.1 ≤ x.toInt) (hx2 : x.toInt ≤ a.2) (hy1 : b.1 ≤ y.toInt) (hy2 : y.toInt ≤ b.2) : ∃ z : Int32, rf_ar J (.int y :: .int x :: r) = some (.int z :: r) ∧ ((-2147483648) ≤ q.1 → q.2 ≤ 2147483647 → q.1 ≤ z.toInt ∧ z.toInt ≤ q.2) := by
  unfold sx_iv at h
  split at h
  · cases h
    refine ⟨x + y, rfl, fun g1 g2 => ?_⟩
    dsimp only at g1 g2 ⊢
    rw [Int32.toInt_add, sx_bm (by omega) (by omega)]
    omega
  · cases h
    refine ⟨x - y, rfl, fun g1 g2 => ?_⟩
    dsimp only at g1 g2 ⊢
    rw [Int32.toInt_sub, sx_bm (by omega) (by omega)]
    omega
  · cases h
    refine ⟨x * y, rfl, fun g1 g2 => ?_⟩
    split at g1
    · rename_i hc
      rw [if_pos hc] at g2 ⊢
      dsimp only at g1 g2 ⊢
      have m1 : a.1 * b.1 ≤ x.toInt * y.toInt := Int.mul_le_mul hx1 hy1 hc.2 (by omega)
      have m2 : x.toInt * y.toInt ≤ a.2 * b.2 := Int.mul_le_mul hx2 hy2 (by omega) (by omega)
      rw [Int32.toInt_mul, sx_bm (by omega) (by omega)]
      exact ⟨m1, m2⟩
    · rename_i hc
      rw [if_neg hc]
      exact sx_rg _
  · cases h
    refine ⟨x &&& y, rfl, fun g1 g2 => ?_⟩
    split
    · obtain ⟨m1, m2⟩ := sx_and_le x y (by omega)
      dsimp only
      omega
    · exact sx_rg _
  · cases h; exact ⟨_, rfl, fun _ _ => sx_rg _⟩
  · cases h; exact ⟨_, rfl, fun _ _ => sx_rg _⟩
  · cases h; exact ⟨_, rfl, fun _ _ => sx_rg _⟩
  · cases h
    refine ⟨_, rfl, fun g1 g2 => ?_⟩
    split
    · obtain ⟨m1, m2⟩ := sx_shr_le x y (by omega)
      dsimp only
      omega
    · exact sx_rg _
  · cases h; exact ⟨_, rfl, fun _ _ => sx_rg _⟩
  · split at h
    · cases h
    · rename_i hc
      cases h
      have hy : ¬ y = 0 := fun e => by
        rw [e] at hy1 hy2
        have := Int32.toInt_zero
        omega
      refine ⟨x / y, ?_, fun _ _ => sx_rg _⟩
      show (if y = 0 then none else some _) = _
      rw [if_neg hy]
  · split at h
    · cases h
    · rename_i hc
      cases h
      have hy : ¬ y = 0 := fun e => by
        rw [e] at hy1 hy2
        have := Int32.toInt_zero
        omega
      refine ⟨x - x / y * y, ?_, fun _ _ => sx_rg _⟩
      show (if y = 0 then none else some _) = _
      rw [if_neg hy]
  · cases h
