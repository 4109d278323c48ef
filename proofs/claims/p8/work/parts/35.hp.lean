/-! the heap -/
def sx_tyok (ty : FieldType) (f : sxF) : Bool := match f, ty with
  | (.inl (_, _)), .int => true
  | (.inl (_, _)), .boolean => true
  | (.inl (_, _)), .byte => true
  | (.inl (_, _)), .char => true
  | (.inl (_, _)), .short => true
  | (.inr none), .long => true
  | (.inr (some (_, _))), .object _ => true
  | (.inr (some (_, _))), .array _ => true
  | _, _ => false
def sx_new (E : sxE) (f : sxF) : sxV × sxE := match f with
  | (.inl (lo, hi)) => sx_ni E lo hi
  | (.inr none) => sx_nl E (-9223372036854775808) 9223372036854775807 false
  | (.inr (some (g, nul))) => sx_nr E g nul
def sx_kdok (y : sxV) (f : sxF) : Bool := match f with
  | (.inl (_, _)) => sx_isI y
  | (.inr none) => sx_isL y
  | (.inr (some (_, _))) => sx_isR y
/-- an object: its ghost, region, kind, fields -/
def sx_ob (G : List sxR) (E : sxE) (x : sxV) : Option (Nat × Nat × Nat × List sxF) := match x with
  | (.inr (.inr (.inr (some s)))) => match E.2.2.1[s]? with
    | some (g, false) => match G[g]? with
      | some ((.inl (ci, fs))) => some (s, g, ci, fs)
      | _ => none
    | _ => none
  | _ => none
/-- an array: its region, type, length, elements -/
def sx_aa (G : List sxR) (E : sxE) (x : sxV) : Option (Nat × FieldType × Nat × sxF) := match x with
  | (.inr (.inr (.inr (some s)))) => match E.2.2.1[s]? with
    | some (g, false) => match G[g]? with
      | some ((.inr (ty, len, e))) => some (g, ty, len, e)
      | _ => none
    | _ => none
  | _ => none
def sx_kf (E : sxE) (s k : Nat) : Option sxV := (E.2.2.2.1.find? (fun q => q.1.1 == s && q.1.2 == k)).map (fun q => q.2)
/-- may v lie where f is -/
def sx_wok (E : sxE) (v : sxV) (f : sxF) : Bool := match f with
  | (.inl (lo, hi)) => (match sx_b E v with
    | some b => decide (lo ≤ b.1) && decide (b.2 ≤ hi)
    | none => false)
  | (.inr none) => sx_isL v
  | (.inr (some (g, nul))) => (match v with
    | (.inr (.inr (.inr (some s)))) => (match E.2.2.1[s]? with
      | some b => decide (b.1 = g) && (!b.2 || nul)
      | none => false)
    | (.inr (.inr (.inr none))) => nul
    | _ => false)
/-- may v be laid into a field of this type as it is -/
def sx_wty (E : sxE) (v : sxV) (ty : FieldType) : Bool := match ty with
  | .int => sx_isI v
  | .long => sx_isL v
  | .object _ => sx_isR v
  | .array _ => sx_isR v
  | .boolean => (match sx_b E v with
    | some b => decide (0 ≤ b.1) && decide (b.2 ≤ 1)
    | none => false)
  | _ => false
def sx_gf (U : sxU) (aux : List (Int × Nat)) (st : List sxV) (E : sxE) : Option (List sxV × sxE) := match st with
  | x :: r => match sx_ob U.1.2.1 E x with
    | some (s, _, ci, fs) => match rf_lk aux (ci : Int) with
      | some k => match fs[k]? with
        | some f => if sx_tyok (U.1.1.2.2.1 (ci : Int) k) f = true then (match sx_kf E s k with
            | some y => if sx_kdok y f = true then some (y :: r, E) else none
            | none => some ((sx_new E f).1 :: r, ((sx_new E f).2.1, (sx_new E f).2.2.1, (sx_new E f).2.2.2.1, ((s, k), (sx_new E f).1) :: E.2.2.2.1, (sx_new E f).2.2.2.2.2))) else none
        | none => none
      | none => none
    | none => none
  | _ => none
def sx_pf (U : sxU) (md : List (Nat × Nat)) (aux : List (Int × Nat)) (st : List sxV) (E : sxE) : Option (List sxV × sxE) := match st with
  | v :: x :: r => match sx_ob U.1.2.1 E x with
    | some (s, g, ci, fs) => match rf_lk aux (ci : Int) with
      | some k => match fs[k]? with
        | some f => if sx_tyok (U.1.1.2.2.1 (ci : Int) k) f = true ∧ sx_wty E v (U.1.1.2.2.1 (ci : Int) k) = true ∧ sx_wok E v f = true ∧ md.elem (g, k + 1) = true then some (r, (E.1, E.2.1, E.2.2.1, ((s, k), v) :: E.2.2.2.1.filter (fun q => !(q.1.2 == k)), E.2.2.2.2)) else none
        | none => none
      | none => none
    | none => none
  | _ => none
def sx_ix (E : sxE) (j : sxV) (len : Nat) : Bool := match sx_b E j with
  | some b => decide (0 ≤ b.1) && decide (b.2 < (len : Int))
  | none => false
def sx_al (U : sxU) (p : FieldType → Bool) (st : List sxV) (E : sxE) : Option (List sxV × sxE) := match st with
  | j :: x :: r => match sx_aa U.1.2.1 E x with
    | some (_, ty, len, e) => if p ty = true ∧ sx_tyok ty e = true ∧ sx_ix E j len = true then some ((sx_new E e).1 :: r, (sx_new E e).2) else none
    | none => none
  | _ => none
/-- stores into arrays of ints and longs -/
def sx_as (U : sxU) (md : List (Nat × Nat)) (p : FieldType → Bool) (st : List sxV) (E : sxE) : Option (List sxV × sxE) := match st with
  | v :: j :: x :: r => match sx_aa U.1.2.1 E x with
    | some (g, ty, len, e) => if p ty = true ∧ sx_tyok ty e = true ∧ sx_ix E j len = true ∧ sx_wok E v e = true ∧ md.elem (g, 0) = true then some (r, E) else none
    | none => none
  | _ => none
def sx_pI (ty : FieldType) : Bool := match ty with
  | .int => true
  | _ => false
def sx_pL (ty : FieldType) : Bool := match ty with
  | .long => true
  | _ => false
def sx_pB (ty : FieldType) : Bool := match ty with
  | .byte => true
  | .boolean => true
  | _ => false
def sx_pO (ty : FieldType) : Bool := match ty with
  | .object _ => true
  | _ => false
/-- a byte or a boolean into an array: e takes what a byte, a boolean can be -/
def sx_bs (U : sxU) (md : List (Nat × Nat)) (st : List sxV) (E : sxE) : Option (List sxV × sxE) := match st with
  | v :: j :: x :: r => match sx_aa U.1.2.1 E x with
    | some (g, ty, len, (.inl (lo, hi))) => if sx_isI v = true ∧ sx_ix E j len = true ∧ md.elem (g, 0) = true ∧ ((ty = .byte ∧ lo ≤ -128 ∧ 127 ≤ hi) ∨ (ty = .boolean ∧ lo ≤ 0 ∧ 1 ≤ hi)) then some (r, E) else none
    | _ => none
  | _ => none
/-- a reference into an array -/
def sx_os (U : sxU) (md : List (Nat × Nat)) (st : List sxV) (E : sxE) : Option (List sxV × sxE) := match st with
  | v :: j :: x :: r => match sx_aa U.1.2.1 E x, sx_ob U.1.2.1 E v with
    | some (g, .object C, len, e), some (_, _, ci, _) => if sx_ix E j len = true ∧ sx_wok E v e = true ∧ md.elem (g, 0) = true ∧ (U.1.1.2.2.2.1[ci]?).map (fun q => q.1) = some C then some (r, E) else none
    | _, _ => none
  | _ => none
def sx_ln (U : sxU) (st : List sxV) (E : sxE) : Option (List sxV × sxE) := match st with
  | x :: r => match sx_aa U.1.2.1 E x with
    | some (_, _, len, _) => if len ≤ 2147483647 then some ((.inr (.inl (len : Int))) :: r, E) else none
    | none => none
  | _ => none
def sx_hp (U : sxU) (md : List (Nat × Nat)) (J : Instr) (aux : List (Int × Nat)) (st : List sxV) (E : sxE) : Option (List sxV × sxE) := match J with
  | .getfield _ => sx_gf U aux st E
  | .putfield _ => sx_pf U md aux st E
  | .iaload => sx_al U sx_pI st E
  | .laload => sx_al U sx_pL st E
  | .baload => sx_al U sx_pB st E
  | .aaload => sx_al U sx_pO st E
  | .iastore => sx_as U md sx_pI st E
  | .lastore => sx_as U md sx_pL st E
  | .bastore => sx_bs U md st E
  | .aastore => sx_os U md st E
  | .arraylength => sx_ln U st E
  | _ => none
def sx_upd (M M' : rf_M) (a k : Nat) : Prop := ∀ a' k', (a' ≠ a ∨ k' ≠ k) → sx_same M M' a' k'
theorem sx_upd_i (M : rf_M) (a k : Nat) (x : Int32) : sx_upd M (rf_wi M a k x) a k := fun _ _ h => ⟨rf_up2 _ _ h, rfl, rfl⟩
theorem sx_upd_l (M : rf_M) (a k : Nat) (x : Int64) : sx_upd M (rf_wl M a k x) a k := fun _ _ h => ⟨rfl, rf_up2 _ _ h, rfl⟩
theorem sx_upd_q (M : rf_M) (a k : Nat) (x : Option Nat) : sx_upd M (rf_wq M a k x) a k := fun _ _ h => ⟨rfl, rfl, rf_up2 _ _ h⟩
section SX6
variable {U : sxU} {W : sxW} {E : sxE} {M M' M0 : rf_M} {sst : List sxV} {st : List Value} {md : List (Nat × Nat)}
theorem sx_f_same {a k : Nat} (h : sx_same M M' a k) {f : sxF} (hf : sx_f U M a k f) : sx_f U M' a k f := by
  rcases f with ⟨lo, hi⟩ | (_ | ⟨g, nul⟩)
  · unfold sx_f at hf ⊢; dsimp only at hf ⊢; rw [h.1]; exact hf
  · trivial
  · unfold sx_f at hf ⊢; dsimp only at hf ⊢; rw [h.2.2]; exact hf
theorem sx_rd_same {a k : Nat} (h : sx_same M M' a k) (x : sxV) : sx_rd x M' a k = sx_rd x M a k := by
  rcases x with ⟨_, _⟩ | _ | _ | (_ | _) <;> unfold sx_rd <;> dsimp only <;> first | rw [h.1] | rw [h.2.1] | rw [h.2.2]
theorem sx_in_w (hin : sx_in U M) {a k : Nat} (ha : U.1.1.2.2.2.2 ≤ a) (hu : sx_upd M M' a k) (hf : ∀ f, sx_fa U.1.2.1 (U.1.2.2.1 a) k = some f → sx_f U M' a k f) : sx_in U M' := by
  refine ⟨fun a' k' f h1 h2 h3 => ?_, fun a' k' h => ?_⟩
  · by_cases e : a' = a ∧ k' = k
    · obtain ⟨rfl, rfl⟩ := e
      exact hf f h3
    · exact sx_f_same (hu a' k' (by omega)) (hin.1 a' k' f h1 h2 h3)
  · have h1 := hin.2 a' k' h
    have h2 := hu a' k' (Or.inl (by omega))
    exact ⟨h2.1.trans h1.1, h2.2.1.trans h1.2.1, h2.2.2.trans h1.2.2⟩
theorem sx_fr_w (hfr : sx_fr U md M0 M) {a k : Nat} (hu : sx_upd M M' a k) (ha : U.1.1.2.2.2.2 ≤ a) (hm : (U.1.2.2.1 a, 0) ∈ md ∨ (U.1.2.2.1 a, k + 1) ∈ md) : sx_fr U md M0 M' := by
  intro a' k' h
  have h1 := hfr a' k' h
  have h2 : a' ≠ a ∨ k' ≠ k := by
    by_cases e : a' = a ∧ k' = k
    · obtain ⟨rfl, rfl⟩ := e
      exfalso
      rcases h with h | h
      · omega
      · exact hm.elim h.1 h.2
    · omega
  have h3 := hu a' k' h2
  exact ⟨h3.1.trans h1.1, h3.2.1.trans h1.2.1, h3.2.2.trans h1.2.2⟩
/-- a writing into an array leaves what is known of objects -/
theorem sx_e_a (hE : sx_e U W E M) {a k : Nat} {q : FieldType × Nat} (hu : sx_upd M M' a k) (ha : U.1.2.2.2.1.1 a = .inr q) : sx_e U W E M' := by
  refine ⟨hE.1, hE.2.1, hE.2.2.1, hE.2.2.2.1, hE.2.2.2.2.1, hE.2.2.2.2.2.1, ?_, hE.2.2.2.2.2.2.2⟩
  intro s k' x hx
  obtain ⟨b, ci, h1, h2, h3, h4⟩ := hE.2.2.2.2.2.2.1 s k' x hx
  have hne : b ≠ a := fun e => by rw [e, ha] at h3; cases h3
  exact ⟨b, ci, h1, h2, h3, by rw [sx_rd_same (hu b k' (Or.inl hne))]; exact h4⟩
theorem sx_e_o (hE : sx_e U W E M) {a k s ci : Nat} {v : sxV} (hu : sx_upd M M' a k) (hs : W.2.2[s]? = some (some a)) (ha : U.1.1.2.2.2.2 ≤ a) (hc : U.1.2.2.2.1.1 a = .inl ci) (hv : sx_v W v (sx_rd v M' a k)) : sx_e U W (E.1, E.2.1, E.2.2.1, ((s, k), v) :: E.2.2.2.1.filter (fun q => !(q.1.2 == k)), E.2.2.2.2) M' := by
  refine ⟨hE.1, hE.2.1, hE.2.2.1, hE.2.2.2.1, hE.2.2.2.2.1, hE.2.2.2.2.2.1, ?_, hE.2.2.2.2.2.2.2⟩
  intro s' k' x hx
  rcases List.mem_cons.mp hx with e | e
  · cases e
    exact ⟨a, ci, hs, ha, hc, hv⟩
  · obtain ⟨e1, e2⟩ := List.mem_filter.mp e
    have hne : k' ≠ k := by simpa using e2
    obtain ⟨b, ci', h1, h2, h3, h4⟩ := hE.2.2.2.2.2.2.1 s' k' x e1
    exact ⟨b, ci', h1, h2, h3, by rw [sx_rd_same (hu b k' (Or.inr hne))]; exact h4⟩
theorem sx_obo (hE : sx_e U W E M) {x : sxV} {v : Value} {q : Nat × Nat × Nat × List sxF} (h : sx_ob U.1.2.1 E x = some q) (hv : sx_v W x v) : ∃ a, v = .ref a ∧ W.2.2[q.1]? = some (some a) ∧ sx_rc U q.2.1 a ∧ go U.1.1 U.1.2.2.2.1 a q.2.2.1 ∧ U.1.2.1[U.1.2.2.1 a]? = some ((.inl (q.2.2.1, q.2.2.2))) := by
  unfold sx_ob at h
  split at h
  · rename_i s
    split at h
    · rename_i g hg
      split at h
      · rename_i ci fs hG
        cases h
        obtain ⟨o, rfl, ho⟩ := hv
        obtain ⟨o', g1, g2⟩ := hE.2.2.2.2.2.1 _ _ hg
        rw [ho] at g1
        cases g1
        cases o with
        | none => cases g2
        | some a =>
          have g2 : sx_rc U g a := g2
          have hs := U.2.2 a g2.1 g2.2.1
          unfold sx_sh at hs
          rw [g2.2.2, hG] at hs
          refine ⟨a, rfl, ho, g2, ⟨g2.1, Nat.lt_of_lt_of_le U.2.1 g2.1, g2.2.1, hs⟩, by rw [g2.2.2]; exact hG⟩
      · cases h
    · cases h
  · cases h
theorem sx_aao (hE : sx_e U W E M) {x : sxV} {v : Value} {q : Nat × FieldType × Nat × sxF} (h : sx_aa U.1.2.1 E x = some q) (hv : sx_v W x v) : ∃ a, v = .ref a ∧ sx_rc U q.1 a ∧ ga U.1.1 U.1.2.2.2.1 a q.2.1 q.2.2.1 ∧ U.1.2.1[U.1.2.2.1 a]? = some ((.inr (q.2.1, q.2.2.1, q.2.2.2))) := by
  unfold sx_aa at h
  split at h
  · rename_i s
    split at h
    · rename_i g hg
      split at h
      · rename_i ty len e hG
        cases h
        obtain ⟨o, rfl, ho⟩ := hv
        obtain ⟨o', g1, g2⟩ := hE.2.2.2.2.2.1 _ _ hg
        rw [ho] at g1
        cases g1
        cases o with
        | none => cases g2
        | some a =>
          have g2 : sx_rc U g a := g2
          have hs := U.2.2 a g2.1 g2.2.1
          unfold sx_sh at hs
          rw [g2.2.2, hG] at hs
          refine ⟨a, rfl, g2, ⟨g2.1, Nat.lt_of_lt_of_le U.2.1 g2.1, g2.2.1, hs⟩, by rw [g2.2.2]; exact hG⟩
      · cases h
    · cases h
  · cases h
theorem sx_newo (hE : sx_e U W E M) {f : sxF} {a k : Nat} {ty : FieldType} (hf : sx_f U M a k f) (ht : sx_tyok ty f = true) : ∃ W', sx_le W W' ∧ sx_e U W' (sx_new E f).2 M ∧ sx_v W' (sx_new E f).1 (rf_rd M ty a k) ∧ sx_rd (sx_new E f).1 M a k = rf_rd M ty a k := by
  rcases f with ⟨lo, hi⟩ | (_ | ⟨g, nul⟩)
  · have e : rf_rd M ty a k = .int (M.1 a k) := by cases ty <;> first | rfl | cases ht
    rw [e]
    obtain ⟨W', w1, w2, w3⟩ := sx_fi hE (M.1 a k) hf.1 hf.2
    exact ⟨W', w1, w2, w3, rfl⟩
  · have e : rf_rd M ty a k = .long (M.2.1 a k) := by cases ty <;> first | rfl | cases ht
    rw [e]
    obtain ⟨W', w1, w2, w3⟩ := sx_flo hE (M.2.1 a k)
    exact ⟨W', w1, w2, w3, rfl⟩
  · have e : rf_rd M ty a k = va_rf (M.2.2 a k) := by cases ty <;> first | rfl | cases ht
    rw [e]
    obtain ⟨W', w1, w2, w3⟩ := sx_frr hE (g := g) (nul := nul) (M.2.2 a k) hf
    exact ⟨W', w1, w2, w3, rfl⟩
theorem sx_ixo (hE : sx_e U W E M) {j : sxV} {v : Value} {len : Nat} (h : sx_ix E j len = true) (hv : sx_v W j v) : ∃ z : Int32, v = .int z ∧ ¬ (z < 0 ∨ len ≤ z.toNatClampNeg) ∧ z.toNatClampNeg < len := by
  unfold sx_ix at h
  split at h
  · rename_i b hb
    simp only [Bool.and_eq_true, decide_eq_true_eq] at h
    obtain ⟨z, rfl, z1, z2⟩ := sx_bo hE hb hv
    have e : z.toNatClampNeg = z.toInt.toNat := rfl
    refine ⟨z, rfl, ?_, by rw [e]; omega⟩
    rw [Int32.lt_iff_toInt_lt, Int32.toInt_zero, e]
    omega
  · cases h
end SX6
