/-! THE REFERENCE'S PARSER: statements -/
def zlk (z : Int) (P : Nat → Prop) : Prop := z = -1 ∨ ∃ x : Nat, z = (x : Int) ∧ P x
theorem zlk.imp {z : Int} {P Q : Nat → Prop} (h : zlk z P) (i : ∀ x, P x → Q x) : zlk z Q := Or.imp id (fun ⟨x, h1, h2⟩ => ⟨x, h1, i x h2⟩) h
def kk8 (z : Int) : Prop := z = 0 ∨ z = 2 ∨ z = 3 ∨ z = 4 ∨ z = 5 ∨ z = 7 ∨ z = 9 ∨ z = 20
/-- e is the beginning of code of text r that ends before its c-th piece -/
def cod (M : rf_M) (r c : Nat) (lim : Int) (e : Nat) : Prop := ∃ k, 200 * r ≤ e ∧ e + k < 200 * r + c ∧ wd (gi M 368) (gi M 369) lim e k = some 1 ∧ gi M 368 (e + k) = 4
/-- statement s of text r, of n, without its exp -/
def zs1 (M : rf_M) (r n s : Nat) : Prop := zlk (gi M 362 s) (fun p => 40 * r ≤ p ∧ p < s) ∧ (gi M 363 s = 0 ∨ gi M 363 s = 1) ∧ zlk (gi M 361 s) (fun x => s < x ∧ x < 40 * r + n ∧ gi M 362 x = gi M 362 s ∧ gi M 363 x = gi M 363 s) ∧ zlk (gi M 365 s) (fun x => s < x ∧ x < 40 * r + n ∧ gi M 362 x = (s : Int) ∧ gi M 363 x = 0) ∧ zlk (gi M 366 s) (fun x => s < x ∧ x < 40 * r + n ∧ gi M 362 x = (s : Int) ∧ gi M 363 x = 1)
/-- its kind, letter and exp -/
def zs2 (M : rf_M) (r c s : Nat) : Prop := kk8 (gi M 360 s) ∧ (gi M 360 s = 20 → 0 ≤ gi M 367 s ∧ gi M 367 s ≤ 25) ∧ (¬ gi M 360 s = 9 → zlk (gi M 364 s) (fun e => cod M r c 26 e)) ∧ (gi M 360 s = 9 → ∃ e : Nat, gi M 364 s = (e : Int) ∧ cod M r c 16 e)
def lastk (M : rf_M) (r n j : Nat) : Prop := zlk (gi M 375 j) (fun x => 40 * r ≤ x ∧ x < 40 * r + n ∧ gi M 362 x = gi M 373 j ∧ gi M 363 x = gi M 374 j)
/-- the bodies that have begun, the innermost first: whose, which -/
def stk (M : rf_M) (r n : Nat) : List (Int × Int) → Prop
  | [] => gi M 373 0 = -1 ∧ gi M 374 0 = 0 ∧ lastk M r n 0
  | e :: ks => (∃ o : Nat, gi M 373 (ks.length + 1) = (o : Int) ∧ 40 * r ≤ o ∧ o < 40 * r + n ∧ gi M 360 o = e.1 - 10) ∧ (e.1 = 10 ∨ e.1 = 12 ∨ e.1 = 15 ∨ e.1 = 17) ∧ gi M 374 (ks.length + 1) = e.2 ∧ (e.2 = 0 ∨ e.2 = 1) ∧ lastk M r n (ks.length + 1) ∧ stk M r n ks
/-- a try's letter, or its first body has begun -/
def trl (M : rf_M) (w s : Nat) : Prop := gi M 360 s = 7 → (16 ≤ gi M 367 s ∧ gi M 367 s ≤ 25) ∨ ∃ j, 1 ≤ j ∧ j ≤ w ∧ gi M 373 j = (s : Int) ∧ gi M 374 j = 0
def fst_ (M : rf_M) (r n : Nat) : Prop := zlk (gi M 358 r) (fun x => 40 * r ≤ x ∧ x < 40 * r + n ∧ gi M 362 x = -1)
theorem cod.eq {M M' : rf_M} {r c c' e : Nat} {lim : Int} (h : cod M r c lim e) (hc : c ≤ c') (q : ∀ k, k < 200 * r + c → gi M' 368 k = gi M 368 k ∧ gi M' 369 k = gi M 369 k) : cod M' r c' lim e := by
  obtain ⟨k, h1, h2, h3, h4⟩ := h
  refine ⟨k, h1, by omega, ?_, by rw [(q _ h2).1]; exact h4⟩
  rw [wd_congr (A := gi M 368) (B := gi M 369) _ (fun t ht => q _ (by omega))]
  exact h3
