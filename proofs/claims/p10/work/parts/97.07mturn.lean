theorem kc_380 {fz : Bool} {S : gS} (hS : rl S) : ga (cx0 fz) S 380 .int 128 ∧ True := ⟨⟨Nat.le_of_ble_eq_true rfl, by decide, Nat.lt_of_le_of_lt (Nat.le_of_ble_eq_true rfl) hS.1, hS.2 _ (Nat.le_of_ble_eq_true rfl) (Nat.le_of_ble_eq_true rfl)⟩, trivial⟩
theorem kc_381 {fz : Bool} {S : gS} (hS : rl S) : ga (cx0 fz) S 381 .int 8 ∧ True := ⟨⟨Nat.le_of_ble_eq_true rfl, by decide, Nat.lt_of_le_of_lt (Nat.le_of_ble_eq_true rfl) hS.1, hS.2 _ (Nat.le_of_ble_eq_true rfl) (Nat.le_of_ble_eq_true rfl)⟩, trivial⟩
theorem kc_382 {fz : Bool} {S : gS} (hS : rl S) : ga (cx0 fz) S 382 .int 8 ∧ True := ⟨⟨Nat.le_of_ble_eq_true rfl, by decide, Nat.lt_of_le_of_lt (Nat.le_of_ble_eq_true rfl) hS.1, hS.2 _ (Nat.le_of_ble_eq_true rfl) (Nat.le_of_ble_eq_true rfl)⟩, trivial⟩
theorem kc_383 {fz : Bool} {S : gS} (hS : rl S) : ga (cx0 fz) S 383 .int 8 ∧ True := ⟨⟨Nat.le_of_ble_eq_true rfl, by decide, Nat.lt_of_le_of_lt (Nat.le_of_ble_eq_true rfl) hS.1, hS.2 _ (Nat.le_of_ble_eq_true rfl) (Nat.le_of_ble_eq_true rfl)⟩, trivial⟩
theorem kc_384 {fz : Bool} {S : gS} (hS : rl S) : ga (cx0 fz) S 384 .int 8 ∧ True := ⟨⟨Nat.le_of_ble_eq_true rfl, by decide, Nat.lt_of_le_of_lt (Nat.le_of_ble_eq_true rfl) hS.1, hS.2 _ (Nat.le_of_ble_eq_true rfl) (Nat.le_of_ble_eq_true rfl)⟩, trivial⟩
theorem kc_385 {fz : Bool} {S : gS} (hS : rl S) : ga (cx0 fz) S 385 .boolean 8 ∧ True := ⟨⟨Nat.le_of_ble_eq_true rfl, by decide, Nat.lt_of_le_of_lt (Nat.le_of_ble_eq_true rfl) hS.1, hS.2 _ (Nat.le_of_ble_eq_true rfl) (Nat.le_of_ble_eq_true rfl)⟩, trivial⟩
theorem kc_386 {fz : Bool} {S : gS} (hS : rl S) : ga (cx0 fz) S 386 .int 8 ∧ True := ⟨⟨Nat.le_of_ble_eq_true rfl, by decide, Nat.lt_of_le_of_lt (Nat.le_of_ble_eq_true rfl) hS.1, hS.2 _ (Nat.le_of_ble_eq_true rfl) (Nat.le_of_ble_eq_true rfl)⟩, trivial⟩
theorem kc_387 {fz : Bool} {S : gS} (hS : rl S) : ga (cx0 fz) S 387 .long 128 ∧ True := ⟨⟨Nat.le_of_ble_eq_true rfl, by decide, Nat.lt_of_le_of_lt (Nat.le_of_ble_eq_true rfl) hS.1, hS.2 _ (Nat.le_of_ble_eq_true rfl) (Nat.le_of_ble_eq_true rfl)⟩, trivial⟩
theorem kc_388 {fz : Bool} {S : gS} (hS : rl S) : ga (cx0 fz) S 388 .int 128 ∧ True := ⟨⟨Nat.le_of_ble_eq_true rfl, by decide, Nat.lt_of_le_of_lt (Nat.le_of_ble_eq_true rfl) hS.1, hS.2 _ (Nat.le_of_ble_eq_true rfl) (Nat.le_of_ble_eq_true rfl)⟩, trivial⟩
theorem kc_389 {fz : Bool} {S : gS} (hS : rl S) : ga (cx0 fz) S 389 .long 16 ∧ True := ⟨⟨Nat.le_of_ble_eq_true rfl, by decide, Nat.lt_of_le_of_lt (Nat.le_of_ble_eq_true rfl) hS.1, hS.2 _ (Nat.le_of_ble_eq_true rfl) (Nat.le_of_ble_eq_true rfl)⟩, trivial⟩
theorem kc_390 {fz : Bool} {S : gS} (hS : rl S) : ga (cx0 fz) S 390 .int 16 ∧ True := ⟨⟨Nat.le_of_ble_eq_true rfl, by decide, Nat.lt_of_le_of_lt (Nat.le_of_ble_eq_true rfl) hS.1, hS.2 _ (Nat.le_of_ble_eq_true rfl) (Nat.le_of_ble_eq_true rfl)⟩, trivial⟩
theorem kc_391 {fz : Bool} {S : gS} (hS : rl S) : ga (cx0 fz) S 391 .long 16 ∧ True := ⟨⟨Nat.le_of_ble_eq_true rfl, by decide, Nat.lt_of_le_of_lt (Nat.le_of_ble_eq_true rfl) hS.1, hS.2 _ (Nat.le_of_ble_eq_true rfl) (Nat.le_of_ble_eq_true rfl)⟩, trivial⟩
theorem kc_392 {fz : Bool} {S : gS} (hS : rl S) : ga (cx0 fz) S 392 .long 10 ∧ True := ⟨⟨Nat.le_of_ble_eq_true rfl, by decide, Nat.lt_of_le_of_lt (Nat.le_of_ble_eq_true rfl) hS.1, hS.2 _ (Nat.le_of_ble_eq_true rfl) (Nat.le_of_ble_eq_true rfl)⟩, trivial⟩
theorem kc_393 {fz : Bool} {S : gS} (hS : rl S) : ga (cx0 fz) S 393 .int 400 ∧ True := ⟨⟨Nat.le_of_ble_eq_true rfl, by decide, Nat.lt_of_le_of_lt (Nat.le_of_ble_eq_true rfl) hS.1, hS.2 _ (Nat.le_of_ble_eq_true rfl) (Nat.le_of_ble_eq_true rfl)⟩, trivial⟩
theorem kc_394 {fz : Bool} {S : gS} (hS : rl S) : ga (cx0 fz) S 394 .int 480 ∧ True := ⟨⟨Nat.le_of_ble_eq_true rfl, by decide, Nat.lt_of_le_of_lt (Nat.le_of_ble_eq_true rfl) hS.1, hS.2 _ (Nat.le_of_ble_eq_true rfl) (Nat.le_of_ble_eq_true rfl)⟩, trivial⟩
theorem kc_395 {fz : Bool} {S : gS} (hS : rl S) : ga (cx0 fz) S 395 .long 7680 ∧ True := ⟨⟨Nat.le_of_ble_eq_true rfl, by decide, Nat.lt_of_le_of_lt (Nat.le_of_ble_eq_true rfl) hS.1, hS.2 _ (Nat.le_of_ble_eq_true rfl) (Nat.le_of_ble_eq_true rfl)⟩, trivial⟩
theorem kc_396 {fz : Bool} {S : gS} (hS : rl S) : ga (cx0 fz) S 396 .long 4800 ∧ True := ⟨⟨Nat.le_of_ble_eq_true rfl, by decide, Nat.lt_of_le_of_lt (Nat.le_of_ble_eq_true rfl) hS.1, hS.2 _ (Nat.le_of_ble_eq_true rfl) (Nat.le_of_ble_eq_true rfl)⟩, trivial⟩
theorem kc_397 {fz : Bool} {S : gS} (hS : rl S) : ga (cx0 fz) S 397 .int 480 ∧ True := ⟨⟨Nat.le_of_ble_eq_true rfl, by decide, Nat.lt_of_le_of_lt (Nat.le_of_ble_eq_true rfl) hS.1, hS.2 _ (Nat.le_of_ble_eq_true rfl) (Nat.le_of_ble_eq_true rfl)⟩, trivial⟩
theorem kc_398 {fz : Bool} {S : gS} (hS : rl S) : ga (cx0 fz) S 398 .long 64 ∧ True := ⟨⟨Nat.le_of_ble_eq_true rfl, by decide, Nat.lt_of_le_of_lt (Nat.le_of_ble_eq_true rfl) hS.1, hS.2 _ (Nat.le_of_ble_eq_true rfl) (Nat.le_of_ble_eq_true rfl)⟩, trivial⟩
theorem kc_399 {fz : Bool} {S : gS} (hS : rl S) : ga (cx0 fz) S 399 .long 16 ∧ True := ⟨⟨Nat.le_of_ble_eq_true rfl, by decide, Nat.lt_of_le_of_lt (Nat.le_of_ble_eq_true rfl) hS.1, hS.2 _ (Nat.le_of_ble_eq_true rfl) (Nat.le_of_ble_eq_true rfl)⟩, trivial⟩
theorem kc_400 {fz : Bool} {S : gS} (hS : rl S) : ga (cx0 fz) S 400 .int 300 ∧ True := ⟨⟨Nat.le_of_ble_eq_true rfl, by decide, Nat.lt_of_le_of_lt (Nat.le_of_ble_eq_true rfl) hS.1, hS.2 _ (Nat.le_of_ble_eq_true rfl) (Nat.le_of_ble_eq_true rfl)⟩, trivial⟩
theorem kc_401 {fz : Bool} {S : gS} (hS : rl S) : ga (cx0 fz) S 401 .int 300 ∧ True := ⟨⟨Nat.le_of_ble_eq_true rfl, by decide, Nat.lt_of_le_of_lt (Nat.le_of_ble_eq_true rfl) hS.1, hS.2 _ (Nat.le_of_ble_eq_true rfl) (Nat.le_of_ble_eq_true rfl)⟩, trivial⟩
theorem kc_402 {fz : Bool} {S : gS} (hS : rl S) : ga (cx0 fz) S 402 .int 300 ∧ True := ⟨⟨Nat.le_of_ble_eq_true rfl, by decide, Nat.lt_of_le_of_lt (Nat.le_of_ble_eq_true rfl) hS.1, hS.2 _ (Nat.le_of_ble_eq_true rfl) (Nat.le_of_ble_eq_true rfl)⟩, trivial⟩
theorem kc_403 {fz : Bool} {S : gS} (hS : rl S) : ga (cx0 fz) S 403 .int 300 ∧ True := ⟨⟨Nat.le_of_ble_eq_true rfl, by decide, Nat.lt_of_le_of_lt (Nat.le_of_ble_eq_true rfl) hS.1, hS.2 _ (Nat.le_of_ble_eq_true rfl) (Nat.le_of_ble_eq_true rfl)⟩, trivial⟩
theorem kc_404 {fz : Bool} {S : gS} (hS : rl S) : ga (cx0 fz) S 404 .int 300 ∧ True := ⟨⟨Nat.le_of_ble_eq_true rfl, by decide, Nat.lt_of_le_of_lt (Nat.le_of_ble_eq_true rfl) hS.1, hS.2 _ (Nat.le_of_ble_eq_true rfl) (Nat.le_of_ble_eq_true rfl)⟩, trivial⟩
theorem kc_405 {fz : Bool} {S : gS} (hS : rl S) : ga (cx0 fz) S 405 .long 300 ∧ True := ⟨⟨Nat.le_of_ble_eq_true rfl, by decide, Nat.lt_of_le_of_lt (Nat.le_of_ble_eq_true rfl) hS.1, hS.2 _ (Nat.le_of_ble_eq_true rfl) (Nat.le_of_ble_eq_true rfl)⟩, trivial⟩
theorem kc_23 {fz : Bool} {S : gS} (hS : rl S) : pa fz S 23 .int 800 := ⟨⟨Nat.le_of_ble_eq_true rfl, by decide, Nat.lt_of_le_of_lt (Nat.le_of_ble_eq_true rfl) hS.1, hS.2 _ (Nat.le_of_ble_eq_true rfl) (Nat.le_of_ble_eq_true rfl)⟩, Nat.le_of_ble_eq_true rfl⟩
theorem kc_24 {fz : Bool} {S : gS} (hS : rl S) : pa fz S 24 (.object "MemoryTransactions$Program") 12 := ⟨⟨Nat.le_of_ble_eq_true rfl, by decide, Nat.lt_of_le_of_lt (Nat.le_of_ble_eq_true rfl) hS.1, hS.2 _ (Nat.le_of_ble_eq_true rfl) (Nat.le_of_ble_eq_true rfl)⟩, Nat.le_of_ble_eq_true rfl⟩
theorem kc_171 {fz : Bool} {S : gS} (hS : rl S) : pa fz S 171 .int 801 := ⟨⟨Nat.le_of_ble_eq_true rfl, by decide, Nat.lt_of_le_of_lt (Nat.le_of_ble_eq_true rfl) hS.1, hS.2 _ (Nat.le_of_ble_eq_true rfl) (Nat.le_of_ble_eq_true rfl)⟩, Nat.le_of_ble_eq_true rfl⟩
theorem kc_172 {fz : Bool} {S : gS} (hS : rl S) : pa fz S 172 .int 801 := ⟨⟨Nat.le_of_ble_eq_true rfl, by decide, Nat.lt_of_le_of_lt (Nat.le_of_ble_eq_true rfl) hS.1, hS.2 _ (Nat.le_of_ble_eq_true rfl) (Nat.le_of_ble_eq_true rfl)⟩, Nat.le_of_ble_eq_true rfl⟩
theorem kc_173 {fz : Bool} {S : gS} (hS : rl S) : pa fz S 173 .int 801 := ⟨⟨Nat.le_of_ble_eq_true rfl, by decide, Nat.lt_of_le_of_lt (Nat.le_of_ble_eq_true rfl) hS.1, hS.2 _ (Nat.le_of_ble_eq_true rfl) (Nat.le_of_ble_eq_true rfl)⟩, Nat.le_of_ble_eq_true rfl⟩
theorem kc_195 {fz : Bool} {S : gS} (hS : rl S) : pa fz S 195 (.object "MemoryTransactions$Client") 8 := ⟨⟨Nat.le_of_ble_eq_true rfl, by decide, Nat.lt_of_le_of_lt (Nat.le_of_ble_eq_true rfl) hS.1, hS.2 _ (Nat.le_of_ble_eq_true rfl) (Nat.le_of_ble_eq_true rfl)⟩, Nat.le_of_ble_eq_true rfl⟩
theorem kc_325 {fz : Bool} {S : gS} (hS : rl S) : pa fz S 325 .int 300 := ⟨⟨Nat.le_of_ble_eq_true rfl, by decide, Nat.lt_of_le_of_lt (Nat.le_of_ble_eq_true rfl) hS.1, hS.2 _ (Nat.le_of_ble_eq_true rfl) (Nat.le_of_ble_eq_true rfl)⟩, Nat.le_of_ble_eq_true rfl⟩
theorem kc_327 {fz : Bool} {S : gS} (hS : rl S) : pa fz S 327 .int 300 := ⟨⟨Nat.le_of_ble_eq_true rfl, by decide, Nat.lt_of_le_of_lt (Nat.le_of_ble_eq_true rfl) hS.1, hS.2 _ (Nat.le_of_ble_eq_true rfl) (Nat.le_of_ble_eq_true rfl)⟩, Nat.le_of_ble_eq_true rfl⟩
theorem kc_328 {fz : Bool} {S : gS} (hS : rl S) : pa fz S 328 .int 300 := ⟨⟨Nat.le_of_ble_eq_true rfl, by decide, Nat.lt_of_le_of_lt (Nat.le_of_ble_eq_true rfl) hS.1, hS.2 _ (Nat.le_of_ble_eq_true rfl) (Nat.le_of_ble_eq_true rfl)⟩, Nat.le_of_ble_eq_true rfl⟩
theorem kc_330 {fz : Bool} {S : gS} (hS : rl S) : pa fz S 330 .long 300 := ⟨⟨Nat.le_of_ble_eq_true rfl, by decide, Nat.lt_of_le_of_lt (Nat.le_of_ble_eq_true rfl) hS.1, hS.2 _ (Nat.le_of_ble_eq_true rfl) (Nat.le_of_ble_eq_true rfl)⟩, Nat.le_of_ble_eq_true rfl⟩
/-! THE PROGRAM AS FORMULAS: rows -/
def wq (M : rf_M) (a k : Nat) (e : Nat) : rf_M := rf_wq M a k (some e)
def gr (M : rf_M) (a k : Nat) : Nat := (M.2.2 a k).getD 0
/-- a program lies there -/
def isP (M : rf_M) (a k : Nat) : Prop := M.2.2 a k = some (gr M a k) ∧ gr M a k ∈ k1
def cpi (M : rf_M) (a2 sp a1 dp n : Nat) : rf_M := (va_up M.1 a1 (va_cpy (M.1 a2) (M.1 a1) sp dp n), M.2.1, M.2.2)
def cpl (M : rf_M) (a2 sp a1 dp n : Nat) : rf_M := (M.1, va_up M.2.1 a1 (va_cpy (M.2.1 a2) (M.2.1 a1) sp dp n), M.2.2)
/-- the cells that are not the program's are as in B, and the references that never change are as they were made -/
def fp (B M : rf_M) : Prop := (∀ a k, ¬ (22 ≤ a ∧ a < 353) → M.1 a k = B.1 a k ∧ M.2.1 a k = B.2.1 a k ∧ M.2.2 a k = B.2.2 a k) ∧ kfr M
theorem va_up_of {α : Type} {f : Nat → α} {k j : Nat} {v : α} (h : j ≠ k) : va_up f k v j = f j := if_neg h
theorem va_up_at {α : Type} (f : Nat → α) (k : Nat) (v : α) : va_up f k v k = v := if_pos rfl
section FP

variable {B M M' : rf_M} {a k : Nat}

theorem fp.wi {z : Int} (h : fp B M) (h1 : 22 ≤ a) (h2 : a < 353) (e : M' = wi M a k z) : fp B M' := by
  subst e
  refine ⟨fun a' k' q => ?_, h.2⟩
  have := h.1 a' k' q
  refine ⟨?_, this.2⟩
  show (rf_wi M a k _).1 a' k' = _
  rw [rf_wi_of _ _ (Or.inl (by omega))]
  exact this.1
theorem fp.wl {x : Int64} (h : fp B M) (h1 : 22 ≤ a) (h2 : a < 353) (e : M' = wl M a k x) : fp B M' := by
  subst e
  refine ⟨fun a' k' q => ?_, h.2⟩
  have := h.1 a' k' q
  refine ⟨this.1, ?_, this.2.2⟩
  show gl (wl M a k x) a' k' = _
  rw [gl_of (Or.inl (by omega))]
  exact this.2.1
theorem fp.cpi {a2 sp dp n : Nat} (h : fp B M) (h1 : 22 ≤ a) (h2 : a < 353) (e : M' = cpi M a2 sp a dp n) : fp B M' := by
  subst e
  refine ⟨fun a' k' q => ?_, h.2⟩
  have := h.1 a' k' q
  refine ⟨?_, this.2⟩
  show va_up M.1 a _ a' k' = _
  rw [va_up_of (by omega)]
  exact this.1
theorem fp.cpl {a2 sp dp n : Nat} (h : fp B M) (h1 : 22 ≤ a) (h2 : a < 353) (e : M' = cpl M a2 sp a dp n) : fp B M' := by
  subst e
  refine ⟨fun a' k' q => ?_, h.2⟩
  have := h.1 a' k' q
  refine ⟨this.1, ?_, this.2.2⟩
  show va_up M.2.1 a _ a' k' = _
  rw [va_up_of (by omega)]
  exact this.2.1
theorem fp.wq' {e : Nat} (h : fp B M) (h1 : 22 ≤ a) (h2 : a < 353) (hq : ∀ q ∈ rfF, q.1 ≠ a ∨ q.2.1 ≠ k) : fp B (wq M a k e) := by
  refine ⟨fun a' k' q => ?_, fun q hq' => ?_⟩
  · have := h.1 a' k' q
    refine ⟨this.1, this.2.1, ?_⟩
    show (rf_wq M a k _).2.2 a' k' = _
    rw [rf_wq_of _ _ (Or.inl (by omega))]
    exact this.2.2
  · show (rf_wq M a k _).2.2 q.1 q.2.1 = _
    rw [rf_wq_of _ _ (hq q hq')]
    exact h.2 q hq'
theorem rfF_R : ∀ q ∈ rfF, q.1 ∈ k7 → q.2.1 ≠ 0 := by decide +kernel
theorem rfF_S : ∀ q ∈ rfF, q.1 ≠ 190 ∧ q.1 ≠ 335 := by decide +kernel
theorem fp.wqR {e : Nat} (h : fp B M) (ha : a ∈ k7) (hM : M' = wq M a 0 e) : fp B M' := by
  subst hM
  refine h.wq' ?_ (kl_7 ha) (fun q hq => ?_)
  · have := k7_or ha; omega
  · by_cases e : q.1 = a
    · exact Or.inr (rfF_R q hq (by rw [e]; exact ha))
    · exact Or.inl e
theorem fp.wqS {e : Nat} (h : fp B M) (ha : a ∈ k4) (hM : M' = wq M (a + 3) k e) : fp B M' := by
  subst hM
  have ho := k4_or ha
  refine h.wq' (by omega) (by omega) (fun q hq => Or.inl ?_)
  have := rfF_S q hq
  omega
theorem rfF_Q : ∀ q ∈ rfF, q.1 = 169 → q.2.1 ≠ 1 := by decide +kernel
theorem fp.wqQ {e : Nat} (h : fp B M) (hM : M' = wq M 169 1 e) : fp B M' := by
  subst hM
  refine h.wq' (by omega) (by omega) (fun q hq => ?_)
  by_cases e : q.1 = 169
  · exact Or.inr (rfF_Q q hq e)
  · exact Or.inl e
theorem fp.trans' {M'' : rf_M} (h : fp B M) (h' : fp M M'') : fp B M'' := ⟨fun a k q => ⟨(h'.1 a k q).1.trans (h.1 a k q).1, (h'.1 a k q).2.1.trans (h.1 a k q).2.1, (h'.1 a k q).2.2.trans (h.1 a k q).2.2⟩, h'.2⟩
theorem pgA_mem {i : Int} (h : 0 ≤ i ∧ i < 12) : pgA i ∈ k1 := by
  have : ∀ n, n < 12 → 25 + 12 * n ∈ k1 := by decide
  exact this i.toNat (by omega)
theorem clA_mem {i : Int} (h : 0 ≤ i ∧ i < 8) : clA i ∈ k6 := by
  have : ∀ n, n < 8 → 196 + 16 * n ∈ k6 := by decide
  exact this i.toNat (by omega)
theorem pgA_ref {i : Int} (hM : kfr M) (h : 0 ≤ i ∧ i < 12) : M.2.2 24 i.toNat = some (pgA i) := by
  have : ∀ n, n < 12 → (24, n, 25 + 12 * n) ∈ rfF := by decide
  exact hM _ (this i.toNat (by omega))
theorem clA_ref {i : Int} (hM : kfr M) (h : 0 ≤ i ∧ i < 8) : M.2.2 195 i.toNat = some (clA i) := by
  have : ∀ n, n < 8 → (195, n, 196 + 16 * n) ∈ rfF := by decide
  exact hM _ (this i.toNat (by omega))
end FP

section PR

variable {cx : rf_C} {d : Nat × Nat} {i pc : Nat} {ls : rf_L} {st : List Value} {h : rf_H} {Q : Option Value → rf_H → Prop} {M : rf_M} {S : gS} {aux : List (Int × Nat)} {a b z : Int}

end PR
/-! EVERY RUN THAT ENDS, ENDS WITH Q (fuel at most n, any room): what is known to end needs no more than this -/
def lx (cx : rf_C) (n : Nat) (i pc : Nat) (ls : rf_L) (st : List Value) (h : rf_H) (Q : Option Value → rf_H → Prop) : Prop := ∀ m, m ≤ n → ∀ d r h', rf_ev cx m d i pc ls st h = some (r, h') → Q r h'
section LX

variable {cx : rf_C} {n i pc : Nat} {ls : rf_L} {st : List Value} {h : rf_H} {Q Q' : Option Value → rf_H → Prop}

theorem lx_step {I : rf_I} (hf : cx.1 i pc = some I) (hk : ∀ d o, rf_ex cx d i pc I ls st h = some o → ∃ pc' ls' st' h', o = .inl (pc', ls', st', h') ∧ lx cx (n - 1) i pc' ls' st' h' Q) : lx cx n i pc ls st h Q := by
  intro m hm d r h' he
  cases m with
  | zero => unfold rf_ev at he; cases he
  | succ m =>
    unfold rf_ev at he
    rw [hf] at he
    dsimp only at he
    cases hx : rf_ex cx d i pc I ls st h with
    | none => rw [hx] at he; cases he
    | some o =>
      obtain ⟨pc', ls', st', h2, rfl, k⟩ := hk d o hx
      rw [hx] at he
      exact k m (by omega) d r h' he
theorem lx_call {I : rf_I} {j : Nat} {as rest : List Value} (hf : cx.1 i pc = some I) (he : ∀ d o, rf_ex cx d i pc I ls st h = some o → o = .inr (.inl (j, as, rest))) (k : 0 < n → lx cx (n - 1) j 0 (lv_args 0 as) [] h (fun r h' => lx cx (n - 1) i (pc + 3) ls (r.toList ++ rest) h' Q)) : lx cx n i pc ls st h Q := by
  intro m hm d r h' hr
  cases m with
  | zero => unfold rf_ev at hr; cases hr
  | succ m =>
    unfold rf_ev at hr
    rw [hf] at hr
    dsimp only at hr
    cases hx : rf_ex cx d i pc I ls st h with
    | none => rw [hx] at hr; cases hr
    | some o =>
      have e := he d o hx
      subst e
      rw [hx] at hr
      dsimp only at hr
      split at hr
      · cases hc : rf_ev cx m (d.1 - 1, d.2 - ((cx.2.1 j).2.2.1 + 19)) j 0 (lv_args 0 as) [] h with
        | none => rw [hc] at hr; cases hr
        | some q =>
          rw [hc] at hr
          exact k (by omega) m (by omega) _ q.1 q.2 hc m (by omega) d r h' hr
      · cases hr
theorem lx_ret {I : rf_I} (hf : cx.1 i pc = some I) (he : ∀ d o, rf_ex cx d i pc I ls st h = some o → ∃ v, o = .inr (.inr v) ∧ Q v h) : lx cx n i pc ls st h Q := by
  intro m hm d r h' hr
  cases m with
  | zero => unfold rf_ev at hr; cases hr
  | succ m =>
    unfold rf_ev at hr
    rw [hf] at hr
    dsimp only at hr
    cases hx : rf_ex cx d i pc I ls st h with
    | none => rw [hx] at hr; cases hr
    | some o =>
      obtain ⟨v, rfl, q⟩ := he d o hx
      rw [hx] at hr
      injection hr with hr
      injection hr with h1 h2
      subst h1; subst h2
      exact q
theorem lx_zero : lx cx 0 i pc ls st h Q := fun m hm d r h' he => by
  obtain rfl : m = 0 := by omega
  unfold rf_ev at he
  cases he
theorem lx_mono (k : lx cx n i pc ls st h Q) (hq : ∀ r h', Q r h' → Q' r h') : lx cx n i pc ls st h Q' := fun m hm d r h' he => hq r h' (k m hm d r h' he)
/-- what ends with Q, ends with all that every run ends with -/
theorem gx_lx {d : Nat × Nat} (k : gx cx d i pc ls st h Q) (l : ∀ n, lx cx n i pc ls st h Q') : gx cx d i pc ls st h (fun r h' => Q r h' ∧ Q' r h') := by
  obtain ⟨m, r, h', he, hq⟩ := k
  exact ⟨m, r, h', he, hq, l m m (Nat.le_refl _) d r h' he⟩
theorem lx_to {I : rf_I} {pc' : Nat} {ls' : rf_L} {st' : List Value} {h' : rf_H} (hf : cx.1 i pc = some I) (he : ∀ d, rf_ex cx d i pc I ls st h = some (.inl (pc', ls', st', h'))) (k : lx cx (n - 1) i pc' ls' st' h' Q) : lx cx n i pc ls st h Q := lx_step hf (fun d o ho => by
  rw [he d] at ho
  injection ho with ho
  exact ⟨_, _, _, _, ho.symm, k⟩)
theorem lx_no {I : rf_I} (hf : cx.1 i pc = some I) (he : ∀ d, rf_ex cx d i pc I ls st h = none) : lx cx n i pc ls st h Q := lx_step hf (fun d o ho => by
  rw [he d] at ho
  cases ho)
end LX
