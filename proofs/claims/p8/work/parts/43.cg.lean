theorem sx_hp_cg (cx : rf_C) (G : List sxR) (rg rg' : Nat → Nat) (S S' : gS) (m m' : rf_M) (p : 0 < cx.2.2.2.2) (s : ∀ a, cx.2.2.2.2 ≤ a → a < S.2.1 → sx_sh G (rg a) (S.1 a)) (s' : ∀ a, cx.2.2.2.2 ≤ a → a < S'.2.1 → sx_sh G (rg' a) (S'.1 a)) : sx_hp ⟨(cx, G, rg, S, m), p, s⟩ = sx_hp ⟨(cx, G, rg', S', m'), p, s'⟩ := rfl
theorem sx_go_cg (T : sxT) (cx : rf_C) (G : List sxR) (rg rg' : Nat → Nat) (S S' : gS) (m m' : rf_M) (p : 0 < cx.2.2.2.2) (s : ∀ a, cx.2.2.2.2 ≤ a → a < S.2.1 → sx_sh G (rg a) (S.1 a)) (s' : ∀ a, cx.2.2.2.2 ≤ a → a < S'.2.1 → sx_sh G (rg' a) (S'.1 a)) : sx_go T ⟨(cx, G, rg, S, m), p, s⟩ = sx_go T ⟨(cx, G, rg', S', m'), p, s'⟩ := by
  funext n
  induction n with
  | zero => rfl
  | succ n ih =>
    funext q j pc sl st E
    unfold sx_go
    rw [ih]
    rfl
theorem sx_ck_cg (T : sxT) (cx : rf_C) (G : List sxR) (rg rg' : Nat → Nat) (S S' : gS) (m m' : rf_M) (p : 0 < cx.2.2.2.2) (s : ∀ a, cx.2.2.2.2 ≤ a → a < S.2.1 → sx_sh G (rg a) (S.1 a)) (s' : ∀ a, cx.2.2.2.2 ≤ a → a < S'.2.1 → sx_sh G (rg' a) (S'.1 a)) (c : sxC) (n : Nat) : sx_ckc T ⟨(cx, G, rg, S, m), p, s⟩ n c = sx_ckc T ⟨(cx, G, rg', S', m'), p, s'⟩ n c := by
  unfold sx_ckc sx_ckk
  rw [sx_go_cg T cx G rg rg' S S' m m' p s s']
