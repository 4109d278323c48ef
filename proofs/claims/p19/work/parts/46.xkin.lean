/-! THE WORLD behind the constructors, and what holds in it at the beginning -/
theorem K2_n (fz : Bool) : (K2 fz).2.2.1 = 406 := by
  have h := K2_ok fz
  rw [K2_eq fz] at h
  simp only [Option.map_some, Option.some.injEq, Prod.mk.injEq] at h
  exact h.2.1
theorem HK_n (fz : Bool) (L : Nat) (xs : Nat → Int32) : (HK fz L xs).2.2.1 = 406 := (pt_n xs (.inr (.int, L)) (K2 fz)).trans (K2_n fz)
theorem K2_shp (fz : Bool) {a : Nat} (h1 : 22 ≤ a) (h2 : a < 406) : (K2 fz).2.1 a = shK.getD (a - 22) shD := by
  have h := List.all_eq_true.mp (K2_sh fz) (a - 22) (List.mem_range.mpr (by omega))
  simp only [decide_eq_true_eq] at h
  rw [show a - 22 + 22 = a by omega] at h
  exact h
theorem HK_shp (fz : Bool) (L : Nat) (xs : Nat → Int32) {a : Nat} (h1 : 22 ≤ a) : (HK fz L xs).2.1 a = (K2 fz).2.1 a := by
  show va_up (K2 fz).2.1 1 _ a = _
  unfold va_up
  rw [if_neg (by omega)]
def xk_shb (G : List sxR) (g : Nat) (s : rf_S) : Bool := match G[g]? with
  | some (.inl (ci, _)) => decide (s = .inl ci)
  | some (.inr (ty, len, _)) => decide (s = .inr (ty, len))
  | none => true
theorem xk_shbo {G : List sxR} {g : Nat} {s : rf_S} (h : xk_shb G g s = true) : sx_sh G g s := by
  unfold xk_shb at h
  unfold sx_sh
  split at h
  · rename_i e; rw [e]; simpa using h
  · rename_i e; rw [e]; simpa using h
  · rename_i e; rw [e]; trivial
theorem xk_shk : (List.range 384).all (fun k => xk_shb xk_G (xk_rg (k + 22)) (shK.getD k shD)) = true := by decide +kernel
/-- the world of a claim -/
def xk_W (fz : Bool) (L : Nat) (xs : Nat → Int32) : sxU := ⟨(cx0 fz, xk_G, xk_rg, (HK fz L xs).2, (HK fz L xs).1), (show 0 < 22 from Nat.le_of_ble_eq_true rfl), fun a h1 h2 => by
  have h1 : 22 ≤ a := h1
  have h2 : a < (HK fz L xs).2.2.1 := h2
  rw [HK_n] at h2
  show sx_sh xk_G (xk_rg a) ((HK fz L xs).2.1 a)
  rw [HK_shp fz L xs h1, K2_shp fz h1 h2]
  have h := List.all_eq_true.mp xk_shk (a - 22) (List.mem_range.mpr (by omega))
  rw [show a - 22 + 22 = a by omega] at h
  exact xk_shbo h⟩
theorem xk_Wck (fz : Bool) (L : Nat) (xs : Nat → Int32) : sx_ck xk_T (xk_W fz L xs) 400 = true := by
  have h := xk_ck fz
  unfold sx_ck at h ⊢
  rw [Bool.and_eq_true] at h ⊢
  refine ⟨?_, h.2⟩
  rw [List.all_eq_true] at h ⊢
  intro c hc
  have h2 := h.1 c hc
  unfold xk_U at h2
  unfold xk_W
  exact (sx_ck_cg xk_T (cx0 fz) xk_G xk_rg (fun _ => 0) (HK fz L xs).2 (fun _ => .inl 0, 0, 0) (HK fz L xs).1 (fun _ _ => 0, fun _ _ => 0, fun _ _ => none) (xk_W fz L xs).2.1 (xk_W fz L xs).2.2 (xk_U fz).2.2 c 400).trans h2
theorem xk_sloto {fz : Bool} {L : Nat} {xs : Nat → Int32} {M : rf_M} {a k : Nat} {f : sxF} (h : xk_slot M a k f = true) : sx_f (xk_W fz L xs) M a k f := by
  rcases f with b | (_ | r)
  · unfold xk_slot at h
    simp only [Bool.and_eq_true, decide_eq_true_eq] at h
    exact h
  · trivial
  · unfold xk_slot at h
    unfold sx_f
    dsimp only at h ⊢
    cases hR : M.2.2 a k with
    | none => rw [hR] at h; exact h
    | some b =>
      rw [hR] at h
      simp only [Bool.and_eq_true, decide_eq_true_eq] at h
      exact ⟨h.1.1, by show b < (HK fz L xs).2.2.1; rw [HK_n]; exact h.1.2, h.2⟩
theorem pt_M2 (row : Nat → Int32) (M : rf_M) : (pt_M row M).2 = M.2 := rfl
theorem sx_same_refl (M : rf_M) (a k : Nat) : sx_same M M a k := ⟨rfl, rfl, rfl⟩
/-- at the beginning all is as the regions say -/
theorem xk_in (fz : Bool) (L : Nat) (xs : Nat → Int32) : sx_in (xk_W fz L xs) (HK fz L xs).1 := by
  refine ⟨?_, fun a k _ => sx_same_refl (HK fz L xs).1 a k⟩
  intro a k f h1 h2 h3
  have h1 : 22 ≤ a := h1
  have h2 : a < (HK fz L xs).2.2.1 := h2
  have h2' := h2
  rw [HK_n] at h2
  have eM2 : (HK fz L xs).1.2 = (K2 fz).1.2 := pt_M2 xs (K2 fz).1
  have eM : ∀ k, sx_same (K2 fz).1 (HK fz L xs).1 a k := fun k => ⟨by
    show va_up (K2 fz).1.1 1 xs a k = _
    unfold va_up
    rw [if_neg (by omega)], by rw [eM2], by rw [eM2]⟩
  refine sx_f_same (eM k) ?_
  have h := List.all_eq_true.mp (K2_cells fz) (a - 22) (List.mem_range.mpr (by omega))
  rw [show a - 22 + 22 = a by omega] at h
  have h3 : sx_fa xk_G (xk_rg a) k = some f := h3
  unfold xk_cell at h
  unfold sx_fa at h3
  split at h
  · rename_i ci fs e
    rw [e] at h3
    dsimp only at h3
    have hk : k < fs.length := (List.getElem?_eq_some_iff.mp h3).1
    have hq := List.all_eq_true.mp h k (List.mem_range.mpr hk)
    rw [h3] at hq
    exact xk_sloto hq
  · rename_i ty len e e0
    rw [e0] at h3
    dsimp only at h3
    split at h3
    · rename_i hk
      have e1 : e = f := Option.some.inj h3
      subst e1
      clear h3
      rcases e with b | (_ | r)
      · have hsh : (K2 fz).2.1 a = .inr (ty, len) := by
          have hs := (xk_W fz L xs).2.2 a h1 h2'
          have hs : sx_sh xk_G (xk_rg a) ((HK fz L xs).2.1 a) := hs
          unfold sx_sh at hs
          rw [e0, HK_shp fz L xs h1] at hs
          exact hs
        obtain ⟨z1, -⟩ := zk_2 fz a (by rw [K2_n]; exact h2) (ty, len) (by omega) h1 hsh k
        unfold xk_arr at h
        simp only [Bool.and_eq_true, decide_eq_true_eq] at h
        show b.1 ≤ ((K2 fz).1.1 a k).toInt ∧ ((K2 fz).1.1 a k).toInt ≤ b.2
        rw [z1, Int32.toInt_zero]
        exact h
      · trivial
      · generalize (K2 fz).1 = m at h ⊢
        have hq : xk_slot m a k (.inr (some r)) = true := List.all_eq_true.mp h k (List.mem_range.mpr hk)
        exact xk_sloto hq
    · cases h3
  · rename_i e
    rw [e] at h3
    cases h3
