/-! answers, frames for lx -/
/-- the cells outside lo .. hi are as in B, and the references that never change are as they were made -/
def fl (lo hi : Nat) (B M : rf_M) : Prop := (∀ a k, ¬ (lo ≤ a ∧ a < hi) → M.1 a k = B.1 a k ∧ M.2.1 a k = B.2.1 a k ∧ M.2.2 a k = B.2.2 a k) ∧ kfr M
def vl_i (lo hi : Nat) (B : rf_M) (S : gS) (K : Int → rf_M → Prop) (r : Option Value) (h' : rf_H) : Prop := ∃ z M', r = some (zv z) ∧ h' = (M', S) ∧ fl lo hi B M' ∧ inr z ∧ K z M'
def vl_l (lo hi : Nat) (B : rf_M) (S : gS) (K : Int64 → rf_M → Prop) (r : Option Value) (h' : rf_H) : Prop := ∃ z M', r = some (.long z) ∧ h' = (M', S) ∧ fl lo hi B M' ∧ K z M'
def vl_v (lo hi : Nat) (B : rf_M) (S : gS) (K : rf_M → Prop) (r : Option Value) (h' : rf_H) : Prop := ∃ M', r = none ∧ h' = (M', S) ∧ fl lo hi B M' ∧ K M'
section FL
variable {B M M' : rf_M} {a k lo hi : Nat}
theorem fl.wi {z : Int} (h : fl lo hi B M) (h1 : lo ≤ a) (h2 : a < hi) (e : M' = wi M a k z) : fl lo hi B M' := by
  subst e
  refine ⟨fun a' k' q => ?_, h.2⟩
  have := h.1 a' k' q
  refine ⟨?_, this.2⟩
  show (rf_wi M a k _).1 a' k' = _
  rw [rf_wi_of _ _ (Or.inl (by omega))]
  exact this.1
theorem fl.wl {x : Int64} (h : fl lo hi B M) (h1 : lo ≤ a) (h2 : a < hi) (e : M' = wl M a k x) : fl lo hi B M' := by
  subst e
  refine ⟨fun a' k' q => ?_, h.2⟩
  have := h.1 a' k' q
  refine ⟨this.1, ?_, this.2.2⟩
  show gl (wl M a k x) a' k' = _
  rw [gl_of (Or.inl (by omega))]
  exact this.2.1
theorem fl.cpi {a2 sp dp n : Nat} (h : fl lo hi B M) (h1 : lo ≤ a) (h2 : a < hi) (e : M' = cpi M a2 sp a dp n) : fl lo hi B M' := by
  subst e
  refine ⟨fun a' k' q => ?_, h.2⟩
  have := h.1 a' k' q
  refine ⟨?_, this.2⟩
  show va_up M.1 a _ a' k' = _
  rw [va_up_of (by omega)]
  exact this.1
theorem fl.cpl {a2 sp dp n : Nat} (h : fl lo hi B M) (h1 : lo ≤ a) (h2 : a < hi) (e : M' = cpl M a2 sp a dp n) : fl lo hi B M' := by
  subst e
  refine ⟨fun a' k' q => ?_, h.2⟩
  have := h.1 a' k' q
  refine ⟨this.1, ?_, this.2.2⟩
  show va_up M.2.1 a _ a' k' = _
  rw [va_up_of (by omega)]
  exact this.2.1
theorem fl.wq' {e : Nat} (h : fl lo hi B M) (h1 : lo ≤ a) (h2 : a < hi) (hq : ∀ q ∈ rfF, q.1 ≠ a ∨ q.2.1 ≠ k) : fl lo hi B (wq M a k e) := by
  refine ⟨fun a' k' q => ?_, fun q hq' => ?_⟩
  · have := h.1 a' k' q
    refine ⟨this.1, this.2.1, ?_⟩
    show (rf_wq M a k _).2.2 a' k' = _
    rw [rf_wq_of _ _ (Or.inl (by omega))]
    exact this.2.2
  · show (rf_wq M a k _).2.2 q.1 q.2.1 = _
    rw [rf_wq_of _ _ (hq q hq')]
    exact h.2 q hq'
theorem fl.wqR {e : Nat} (h : fl 22 353 B M) (ha : a ∈ k7) (hM : M' = wq M a 0 e) : fl 22 353 B M' := by
  subst hM
  refine h.wq' ?_ (kl_7 ha) (fun q hq => ?_)
  · have := k7_or ha; omega
  · by_cases e : q.1 = a
    · exact Or.inr (rfF_R q hq (by rw [e]; exact ha))
    · exact Or.inl e
theorem fl.wqS {e : Nat} (h : fl 22 353 B M) (ha : a ∈ k4) (hM : M' = wq M (a + 3) k e) : fl 22 353 B M' := by
  subst hM
  have ho := k4_or ha
  refine h.wq' (by omega) (by omega) (fun q hq => Or.inl ?_)
  have := rfF_S q hq
  omega
theorem fl.wqQ {e : Nat} (h : fl 22 353 B M) (hM : M' = wq M 169 1 e) : fl 22 353 B M' := by
  subst hM
  refine h.wq' (by omega) (by omega) (fun q hq => ?_)
  by_cases e : q.1 = 169
  · exact Or.inr (rfF_Q q hq e)
  · exact Or.inl e
theorem fl.trans' {M'' : rf_M} (h : fl lo hi B M) (h' : fl lo hi M M'') : fl lo hi B M'' := ⟨fun a k q => ⟨(h'.1 a k q).1.trans (h.1 a k q).1, (h'.1 a k q).2.1.trans (h.1 a k q).2.1, (h'.1 a k q).2.2.trans (h.1 a k q).2.2⟩, h'.2⟩
theorem fl.rfl' (h : kfr M) : fl lo hi M M := ⟨fun _ _ _ => ⟨rfl, rfl, rfl⟩, h⟩
end FL
section LV
variable {cx : rf_C} {n0 : Nat} {i pc : Nat} {ls : rf_L} {st : List Value} {h : rf_H} {Q : Option Value → rf_H → Prop} {M : rf_M} {S : gS} {aux : List (Int × Nat)} {a b z : Int} {lo hi : Nat} {B : rf_M}
theorem l6 {J : Instr} {v : Option Value} (hf : cx.1 i pc = some (J, aux)) (hk : rf_kd J = 6) (he : ∀ w, rf_rt J (cx.2.1 i).2.2.2 st = some w → w = v) (hq : Q v h) : lx cx n0 i pc ls st h Q := by
  refine lx_ret hf (fun d o ho => ?_)
  unfold rf_ex at ho
  simp only [hk] at ho
  cases hr : rf_rt J (cx.2.1 i).2.2.2 st with
  | none => rw [hr] at ho; cases ho
  | some w =>
    rw [hr] at ho
    injection ho with ho
    exact ⟨w, ho.symm, by rw [he w hr]; exact hq⟩
theorem l_rb {K : Int → rf_M → Prop} (hf : cx.1 i pc = some (.ireturn, aux)) (hr : (cx.2.1 i).2.2.2 = some .boolean) (hz : z = 0 ∨ z = 1) (hR : fl lo hi B M) (hK : K z M) : lx cx n0 i pc ls [zv z] (M, S) (vl_i lo hi B S K) := by
  refine l6 hf rfl (v := some (zv z)) (fun w hw => ?_) ⟨z, M, rfl, rfl, hR, by rcases hz with rfl | rfl <;> exact ⟨by decide, by decide⟩, hK⟩
  rw [hr] at hw
  rcases hz with rfl | rfl
  · injection hw with hw; exact hw.symm
  · injection hw with hw; exact hw.symm
theorem l_ri {K : Int → rf_M → Prop} (hf : cx.1 i pc = some (.ireturn, aux)) (hr : (cx.2.1 i).2.2.2 = some .int) (hz : inr z) (hR : fl lo hi B M) (hK : K z M) : lx cx n0 i pc ls [zv z] (M, S) (vl_i lo hi B S K) := by
  refine l6 hf rfl (v := some (zv z)) (fun w hw => ?_) ⟨z, M, rfl, rfl, hR, hz, hK⟩
  rw [hr] at hw
  injection hw with hw; exact hw.symm
theorem l_rl {x : Int64} {K : Int64 → rf_M → Prop} (hf : cx.1 i pc = some (.lreturn, aux)) (hr : (cx.2.1 i).2.2.2 = some .long) (hR : fl lo hi B M) (hK : K x M) : lx cx n0 i pc ls [.long x] (M, S) (vl_l lo hi B S K) := by
  refine l6 hf rfl (v := some (.long x)) (fun w hw => ?_) ⟨x, M, rfl, rfl, hR, hK⟩
  rw [hr] at hw
  injection hw with hw; exact hw.symm
theorem l_rv {K : rf_M → Prop} (hf : cx.1 i pc = some (.return_, aux)) (hr : (cx.2.1 i).2.2.2 = none) (hR : fl lo hi B M) (hK : K M) : lx cx n0 i pc ls [] (M, S) (vl_v lo hi B S K) := by
  refine l6 hf rfl (v := none) (fun w hw => ?_) ⟨M, rfl, rfl, hR, hK⟩
  rw [hr] at hw
  injection hw with hw; exact hw.symm
theorem b_dv {x y : Int64} (hf : cx.1 i pc = some (.ldiv, aux)) (kk : ¬ y = 0 → lx cx (n0 - 1) i (pc + 1) ls (.long (x / y) :: st) h Q) : lx cx n0 i pc ls (.long y :: .long x :: st) h Q := by
  by_cases q : y = 0
  · exact l0_no hf rfl (if_pos q)
  · exact l0 hf rfl (if_neg q) (kk q)
theorem b_rm {x y : Int64} (hf : cx.1 i pc = some (.lrem, aux)) (kk : ¬ y = 0 → lx cx (n0 - 1) i (pc + 1) ls (.long (x - x / y * y) :: st) h Q) : lx cx n0 i pc ls (.long y :: .long x :: st) h Q := by
  by_cases q : y = 0
  · exact l0_no hf rfl (if_pos q)
  · exact l0 hf rfl (if_neg q) (kk q)
theorem cp_n {x : Int} (ha : inr x) (h : ¬ Int32.ofInt x < 0) : 0 ≤ x ∧ (Int32.ofInt x).toNatClampNeg = x.toNat := by
  have h0 : 0 ≤ x := by
    rw [Int32.lt_iff_toInt_lt, ti_ofi ha] at h
    have : (0 : Int32).toInt = 0 := rfl
    omega
  have e : (Int32.ofInt x).toInt = ((x.toNat : Nat) : Int) := by rw [ti_ofi ha]; omega
  exact ⟨h0, ix_nat e⟩
theorem b_cpi {c1 c2 n1 n2 : Nat} {sp dp n : Int} {J : Instr} {k0 : Nat} {rest : List Value} (hf : cx.1 i pc = some (J, [(11, k0)])) (hk : rf_kd J = 5) (hs2 : ga cx S c2 .int n2) (hs1 : ga cx S c1 .int n1) (h1 : inr sp) (h2 : inr dp) (h3 : inr n) (kk : (0 ≤ sp ∧ 0 ≤ dp ∧ 0 ≤ n) ∧ sp + n ≤ n2 ∧ dp + n ≤ n1 → ∀ M', M' = cpi M c2 sp.toNat c1 dp.toNat n.toNat → lx cx (n0 - 1) i (pc + 3) ls rest (M', S) Q) : lx cx n0 i pc ls (zv n :: zv dp :: .ref c1 :: zv sp :: .ref c2 :: rest) (M, S) Q := by
  refine b_bi hf hk (by decide) (fun d q e => ?_)
  unfold rf_bi at e
  rw [if_neg (by decide), if_pos rfl] at e
  dsimp only at e
  split at e
  · rename_i w
    have e1 := cp_n h1 w.2.2.2.1
    have e2 := cp_n h2 w.2.2.2.2.1
    have e3 := cp_n h3 w.2.2.2.2.2
    rw [hs1.aa, hs2.aa] at e
    dsimp only at e
    rw [e1.2, e2.2, e3.2] at e
    split at e
    · rename_i w2
      injection e with e
      rw [← e]
      exact kk ⟨⟨e1.1, e2.1, e3.1⟩, by omega, by omega⟩ _ rfl
    · cases e
  · cases e
theorem b_cpl {c1 c2 n1 n2 : Nat} {sp dp n : Int} {J : Instr} {k0 : Nat} {rest : List Value} (hf : cx.1 i pc = some (J, [(11, k0)])) (hk : rf_kd J = 5) (hs2 : ga cx S c2 .long n2) (hs1 : ga cx S c1 .long n1) (h1 : inr sp) (h2 : inr dp) (h3 : inr n) (kk : (0 ≤ sp ∧ 0 ≤ dp ∧ 0 ≤ n) ∧ sp + n ≤ n2 ∧ dp + n ≤ n1 → ∀ M', M' = cpl M c2 sp.toNat c1 dp.toNat n.toNat → lx cx (n0 - 1) i (pc + 3) ls rest (M', S) Q) : lx cx n0 i pc ls (zv n :: zv dp :: .ref c1 :: zv sp :: .ref c2 :: rest) (M, S) Q := by
  refine b_bi hf hk (by decide) (fun d q e => ?_)
  unfold rf_bi at e
  rw [if_neg (by decide), if_pos rfl] at e
  dsimp only at e
  split at e
  · rename_i w
    have e1 := cp_n h1 w.2.2.2.1
    have e2 := cp_n h2 w.2.2.2.2.1
    have e3 := cp_n h3 w.2.2.2.2.2
    rw [hs1.aa, hs2.aa] at e
    dsimp only at e
    rw [e1.2, e2.2, e3.2] at e
    split at e
    · rename_i w2
      injection e with e
      rw [← e]
      exact kk ⟨⟨e1.1, e2.1, e3.1⟩, by omega, by omega⟩ _ rfl
    · cases e
  · cases e
theorem b_mx {J : Instr} {k0 : Nat} (hf : cx.1 i pc = some (J, [(13, k0)])) (hk : rf_kd J = 5) (ha : inr a) (hb : inr b) (kk : lx cx (n0 - 1) i (pc + 3) ls (zv (if a < b then b else a) :: st) (M, S) Q) : lx cx n0 i pc ls (zv b :: zv a :: st) (M, S) Q := by
  have e : (if Int32.ofInt a < Int32.ofInt b then Int32.ofInt b else Int32.ofInt a) = Int32.ofInt (if a < b then b else a) := by
    have : Int32.ofInt a < Int32.ofInt b ↔ a < b := by
      rw [Int32.lt_iff_toInt_lt, ti_ofi ha, ti_ofi hb]
    by_cases q : a < b
    · rw [if_pos (this.mpr q), if_pos q]
    · rw [if_neg (fun z => q (this.mp z)), if_neg q]
  refine b_bi hf hk (by decide) (fun d q w => ?_)
  unfold rf_bi at w
  rw [if_neg (by decide), if_neg (by decide), if_neg (by decide), if_pos rfl] at w
  dsimp only at w
  split at w
  · injection w with w
    rw [← w]
    show lx cx (n0 - 1) i (pc + 3) ls (Value.int (if Int32.ofInt a < Int32.ofInt b then Int32.ofInt b else Int32.ofInt a) :: st) (M, S) Q
    rw [e]
    exact kk
  · cases w
end LV
