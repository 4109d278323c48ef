theorem xk_Wck (fz : Bool) (L : Nat) (xs : Nat → Int32) : sx_ck xk_T (xk_W fz L xs) 400 = true := by
  have h := xk_ck fz
  unfold sx_ck at h ⊢
  rw [Bool.and_eq_true] at h ⊢
  refine ⟨?_, h.2⟩
  rw [List.all_eq_true] at h ⊢
  intro c hc
  have h2 := h.1 c hc
  unfold xk_U at h2
  unfold xk_W
  exact (sx_ck_cg xk_T (cx0 fz) xk_G xk_rg (fun _ => 0) (HK fz L xs).2 (fun _ => .inl 0, 0, 0) (HK fz L xs).1 (fun _ _ => 0, fun _ _ => 0, fun _ _ => none) (xk_W fz L xs).2.1 (xk_W fz L xs).2.2 (xk_U fz).2.2 c 400).trans h2
def xk_slot (M : rf_M) (a k : Nat) (f : sxF) : Bool := match f with
  | .inl b => decide (b.1 ≤ (M.1 a k).toInt) && decide ((M.1 a k).toInt ≤ b.2)
  | .inr none => true
  | .inr (some r) => (match M.2.2 a k with
    | none => r.2
    | some b => decide (22 ≤ b) && decide (b < 406) && decide (xk_rg b = r.1))
def xk_arr (M : rf_M) (a len : Nat) (e : sxF) : Bool := match e with
  | .inl b => decide (b.1 ≤ 0) && decide (0 ≤ b.2)
  | .inr none => true
  | .inr (some r) => (List.range len).all (fun k => xk_slot M a k (.inr (some r)))
