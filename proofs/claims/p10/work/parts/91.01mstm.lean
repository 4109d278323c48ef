theorem zs1.eq {M M' : rf_M} {r n n' s : Nat} (h : zs1 M r n s) (hn : n ≤ n') (hs : s < 40 * r + n) (q : ∀ k, k < 40 * r + n → ∀ a, (a = 361 ∨ a = 362 ∨ a = 363 ∨ a = 365 ∨ a = 366) → gi M' a k = gi M a k) : zs1 M' r n' s := by
  obtain ⟨h1, h2, h3, h4, h5⟩ := h
  unfold zs1
  rw [q s hs 361 (by omega), q s hs 362 (by omega), q s hs 363 (by omega), q s hs 365 (by omega), q s hs 366 (by omega)]
  refine ⟨h1, h2, h3.imp (fun x z => ?_), h4.imp (fun x z => ?_), h5.imp (fun x z => ?_)⟩
  all_goals (rw [q x z.2.1 362 (by omega), q x z.2.1 363 (by omega)]; exact ⟨z.1, by omega, z.2.2⟩)
theorem zs2.eq {M M' : rf_M} {r c c' s : Nat} (h : zs2 M r c s) (hc : c ≤ c') (q : ∀ a, (a = 360 ∨ a = 364 ∨ a = 367) → gi M' a s = gi M a s) (q2 : ∀ k, k < 200 * r + c → gi M' 368 k = gi M 368 k ∧ gi M' 369 k = gi M 369 k) : zs2 M' r c' s := by
  obtain ⟨h1, h2, h3, h4⟩ := h
  unfold zs2
  rw [q 360 (by omega), q 364 (by omega), q 367 (by omega)]
  exact ⟨h1, h2, fun z => (h3 z).imp (fun e w => w.eq hc q2), fun z => by obtain ⟨e, e1, e2⟩ := h4 z; exact ⟨e, e1, e2.eq hc q2⟩⟩
theorem lastk.eq {M M' : rf_M} {r n n' j : Nat} (h : lastk M r n j) (hn : n ≤ n') (q : ∀ k, k < 40 * r + n → gi M' 362 k = gi M 362 k ∧ gi M' 363 k = gi M 363 k) (q2 : ∀ a, (a = 373 ∨ a = 374 ∨ a = 375) → gi M' a j = gi M a j) : lastk M' r n' j := by
  unfold lastk
  rw [q2 373 (by omega), q2 374 (by omega), q2 375 (by omega)]
  exact h.imp (fun x z => by rw [(q x z.2.1).1, (q x z.2.1).2]; exact ⟨z.1, by omega, z.2.2⟩)
theorem stk.eq {M M' : rf_M} {r n n' : Nat} (hn : n ≤ n') (q : ∀ k, k < 40 * r + n → gi M' 360 k = gi M 360 k ∧ gi M' 362 k = gi M 362 k ∧ gi M' 363 k = gi M 363 k) : ∀ {ks : List (Int × Int)}, stk M r n ks → (∀ j, j ≤ ks.length → ∀ a, (a = 373 ∨ a = 374 ∨ a = 375) → gi M' a j = gi M a j) → stk M' r n' ks
  | [], h, q2 => ⟨(q2 0 (Nat.le_refl _) 373 (by omega)).trans h.1, (q2 0 (Nat.le_refl _) 374 (by omega)).trans h.2.1, h.2.2.eq hn (fun k hk => (q k hk).2) (q2 0 (Nat.le_refl _))⟩
  | e :: ks, h, q2 => by
    obtain ⟨⟨o, o1, o2, o3, o4⟩, h2, h3, h4, h5, h6⟩ := h
    refine ⟨⟨o, (q2 (ks.length + 1) (by simp) 373 (by omega)).trans o1, o2, by omega, (q o o3).1.trans o4⟩, h2, (q2 (ks.length + 1) (by simp) 374 (by omega)).trans h3, h4, h5.eq hn (fun k hk => (q k hk).2) (q2 _ (by simp)), stk.eq hn q h6 (fun j hj => q2 j (by simp; omega))⟩
/-- what newStatement() writes -/
def nsw (r w : Nat) (a k : Nat) : Prop := (a = 355 ∧ k = r) ∨ (a = 358 ∧ k = r) ∨ (361 ≤ a ∧ a ≤ 367 ∧ 40 * r ≤ k ∧ k < 40 * r + 40) ∨ (a = 375 ∧ k = w)
