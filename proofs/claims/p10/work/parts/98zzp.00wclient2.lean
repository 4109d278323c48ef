/-! the reference's client() as a formula, for lx (printed by wip/tools/vl.py) -/
def e_W_client_23 (M : rf_M) (K : Int → rf_M → Prop) : Prop := K (-1) M
theorem E_W_client_23 {fz : Bool} {S : gS} {B : rf_M} {M : rf_M} {ls : rf_L} {n0 : Nat} {K : Int → rf_M → Prop} (hS : rl S) (hR : fl 353 406 B M) (h : e_W_client_23 M K) : lx (cx0 fz) n0 188 23 ls [] (M, S) (vl_i 353 406 B S K) := by
  unfold e_W_client_23 at h
  refine l1 (n := 1) rfl rfl rfl rfl ?_
  exact l_ri rfl rfl ⟨by decide, by decide⟩ hR h
def e_W_client_181 (s0 : Int) (M : rf_M) (K : Int → rf_M → Prop) : Prop := K s0 M
theorem E_W_client_181 {fz : Bool} {S : gS} {B : rf_M} {M : rf_M} {ls : rf_L} {n0 : Nat} {s0 : Int} {K : Int → rf_M → Prop} (hS : rl S) (hR : fl 353 406 B M) (is0 : inr s0) (h : e_W_client_181 s0 M K) : lx (cx0 fz) n0 188 181 ls [zv s0] (M, S) (vl_i 353 406 B S K) := by
  unfold e_W_client_181 at h
  exact l_ri rfl rfl is0 hR h
def e_W_client_145 (s0 : Int) (M : rf_M) (K : Int → rf_M → Prop) : Prop := K s0 M
theorem E_W_client_145 {fz : Bool} {S : gS} {B : rf_M} {M : rf_M} {ls : rf_L} {n0 : Nat} {s0 : Int} {K : Int → rf_M → Prop} (hS : rl S) (hR : fl 353 406 B M) (is0 : inr s0) (h : e_W_client_145 s0 M K) : lx (cx0 fz) n0 188 145 ls [zv s0] (M, S) (vl_i 353 406 B S K) := by
  unfold e_W_client_145 at h
  exact l_ri rfl rfl is0 hR h
def e_W_client_124 (s0 : Int) (M : rf_M) (K : Int → rf_M → Prop) : Prop := K s0 M
theorem E_W_client_124 {fz : Bool} {S : gS} {B : rf_M} {M : rf_M} {ls : rf_L} {n0 : Nat} {s0 : Int} {K : Int → rf_M → Prop} (hS : rl S) (hR : fl 353 406 B M) (is0 : inr s0) (h : e_W_client_124 s0 M K) : lx (cx0 fz) n0 188 124 ls [zv s0] (M, S) (vl_i 353 406 B S K) := by
  unfold e_W_client_124 at h
  exact l_ri rfl rfl is0 hR h
def e_W_client_211 (s0 : Int) (M : rf_M) (K : Int → rf_M → Prop) : Prop := K s0 M
theorem E_W_client_211 {fz : Bool} {S : gS} {B : rf_M} {M : rf_M} {ls : rf_L} {n0 : Nat} {s0 : Int} {K : Int → rf_M → Prop} (hS : rl S) (hR : fl 353 406 B M) (is0 : inr s0) (h : e_W_client_211 s0 M K) : lx (cx0 fz) n0 188 211 ls [zv s0] (M, S) (vl_i 353 406 B S K) := by
  unfold e_W_client_211 at h
  exact l_ri rfl rfl is0 hR h
def e_W_client_59 (v1 : Int) (v2 : Int) (v3 : Int) (s0 : Int) (M : rf_M) (K : Int → rf_M → Prop) : Prop := (v2 = 0 → ((v3 = 0 → ((0 ≤ v1 ∧ v1 < 8 → (inr ((gi M 382 (v1).toNat) + 1) ∧ (e_W_client_124 ((gi M 382 (v1).toNat) + 1) M K))))) ∧ (¬ (v3 = 0) → (e_W_client_124 0 M K)))) ∧ (v2 = 1 → ((0 ≤ v1 ∧ v1 < 8 → (K (gi M 381 (v1).toNat) M)))) ∧ (v2 = 2 → ((v3 = 0 → (em_W_firstOf v1 M (fun (z1 : Int) (M1 : rf_M) => e_W_client_145 z1 M1 K))) ∧ (¬ (v3 = 0) → (e_W_client_145 (-1) M K)))) ∧ (v2 = 3 → ((0 ≤ v1 ∧ v1 < 8 → (K (gi M 384 (v1).toNat) M)))) ∧ (v2 = 4 → ((0 ≤ v1 ∧ v1 < 8 → (K (gi M 383 (v1).toNat) M)))) ∧ (v2 = 5 → ((0 ≤ v1 ∧ v1 < 8 → (K (gi M 386 (v1).toNat) M)))) ∧ (v2 = 7 → ((0 ≤ v1 ∧ v1 < 8 → (((gi M 385 (v1).toNat) = 0 → (e_W_client_181 0 M K)) ∧ (¬ ((gi M 385 (v1).toNat) = 0) → (e_W_client_181 1 M K)))))) ∧ (¬ v2 = 0 ∧ ¬ v2 = 1 ∧ ¬ v2 = 2 ∧ ¬ v2 = 3 ∧ ¬ v2 = 4 ∧ ¬ v2 = 5 ∧ ¬ v2 = 7 → ((s0 = 0 → (K 0 M)) ∧ (¬ s0 = 0 → (em_W_walkAnew v1 M (fun (M2 : rf_M) => (v2 = 6 → (e_W_client_211 (gi M2 353 55) M2 K)) ∧ (¬ v2 = 6 → (e_W_client_211 (gi M2 353 58) M2 K)))))))
