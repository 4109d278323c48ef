/-! THE PROGRAM AS FORMULAS: rows -/
def wq (M : rf_M) (a k : Nat) (e : Nat) : rf_M := rf_wq M a k (some e)
def gr (M : rf_M) (a k : Nat) : Nat := (M.2.2 a k).getD 0
/-- a program lies there -/
def isP (M : rf_M) (a k : Nat) : Prop := M.2.2 a k = some (gr M a k) ∧ gr M a k ∈ k1
def cpi (M : rf_M) (a2 sp a1 dp n : Nat) : rf_M := (va_up M.1 a1 (va_cpy (M.1 a2) (M.1 a1) sp dp n), M.2.1, M.2.2)
def cpl (M : rf_M) (a2 sp a1 dp n : Nat) : rf_M := (M.1, va_up M.2.1 a1 (va_cpy (M.2.1 a2) (M.2.1 a1) sp dp n), M.2.2)
/-- the cells that are not the program's are as in B, and the references that never change are as they were made -/
def fp (B M : rf_M) : Prop := (∀ a k, ¬ (22 ≤ a ∧ a < 353) → M.1 a k = B.1 a k ∧ M.2.1 a k = B.2.1 a k ∧ M.2.2 a k = B.2.2 a k) ∧ kfr M
theorem va_up_of {α : Type} {f : Nat → α} {k j : Nat} {v : α} (h : j ≠ k) : va_up f k v j = f j := if_neg h
theorem va_up_at {α : Type} (f : Nat → α) (k : Nat) (v : α) : va_up f k v k = v := if_pos rfl
section FP
variable {B M M' : rf_M} {a k : Nat}
theorem fp.wi {z : Int} (h : fp B M) (h1 : 22 ≤ a) (h2 : a < 353) (e : M' = wi M a k z) : fp B M' := by
  subst e
  refine ⟨fun a' k' q => ?_, h.2⟩
  have := h.1 a' k' q
  refine ⟨?_, this.2⟩
  show (rf_wi M a k _).1 a' k' = _
  rw [rf_wi_of _ _ (Or.inl (by omega))]
  exact this.1
theorem fp.wl {x : Int64} (h : fp B M) (h1 : 22 ≤ a) (h2 : a < 353) (e : M' = wl M a k x) : fp B M' := by
  subst e
  refine ⟨fun a' k' q => ?_, h.2⟩
  have := h.1 a' k' q
  refine ⟨this.1, ?_, this.2.2⟩
  show gl (wl M a k x) a' k' = _
  rw [gl_of (Or.inl (by omega))]
  exact this.2.1
theorem fp.cpi {a2 sp dp n : Nat} (h : fp B M) (h1 : 22 ≤ a) (h2 : a < 353) (e : M' = cpi M a2 sp a dp n) : fp B M' := by
  subst e
  refine ⟨fun a' k' q => ?_, h.2⟩
  have := h.1 a' k' q
  refine ⟨?_, this.2⟩
  show va_up M.1 a _ a' k' = _
  rw [va_up_of (by omega)]
  exact this.1
theorem fp.cpl {a2 sp dp n : Nat} (h : fp B M) (h1 : 22 ≤ a) (h2 : a < 353) (e : M' = cpl M a2 sp a dp n) : fp B M' := by
  subst e
  refine ⟨fun a' k' q => ?_, h.2⟩
  have := h.1 a' k' q
  refine ⟨this.1, ?_, this.2.2⟩
  show va_up M.2.1 a _ a' k' = _
  rw [va_up_of (by omega)]
  exact this.2.1
theorem fp.wq' {e : Nat} (h : fp B M) (h1 : 22 ≤ a) (h2 : a < 353) (hq : ∀ q ∈ rfF, q.1 ≠ a ∨ q.2.1 ≠ k) : fp B (wq M a k e) := by
  refine ⟨fun a' k' q => ?_, fun q hq' => ?_⟩
  · have := h.1 a' k' q
    refine ⟨this.1, this.2.1, ?_⟩
    show (rf_wq M a k _).2.2 a' k' = _
    rw [rf_wq_of _ _ (Or.inl (by omega))]
    exact this.2.2
  · show (rf_wq M a k _).2.2 q.1 q.2.1 = _
    rw [rf_wq_of _ _ (hq q hq')]
    exact h.2 q hq'
theorem rfF_R : ∀ q ∈ rfF, q.1 ∈ k7 → q.2.1 ≠ 0 := by decide +kernel
theorem rfF_S : ∀ q ∈ rfF, q.1 ≠ 190 ∧ q.1 ≠ 335 := by decide +kernel
theorem fp.wqR {e : Nat} (h : fp B M) (ha : a ∈ k7) (hM : M' = wq M a 0 e) : fp B M' := by
  subst hM
  refine h.wq' ?_ (kl_7 ha) (fun q hq => ?_)
  · have := k7_or ha; omega
  · by_cases e : q.1 = a
    · exact Or.inr (rfF_R q hq (by rw [e]; exact ha))
    · exact Or.inl e
theorem fp.wqS {e : Nat} (h : fp B M) (ha : a ∈ k4) (hM : M' = wq M (a + 3) k e) : fp B M' := by
  subst hM
  have ho := k4_or ha
  refine h.wq' (by omega) (by omega) (fun q hq => Or.inl ?_)
  have := rfF_S q hq
  omega
theorem rfF_Q : ∀ q ∈ rfF, q.1 = 169 → q.2.1 ≠ 1 := by decide +kernel
theorem fp.wqQ {e : Nat} (h : fp B M) (hM : M' = wq M 169 1 e) : fp B M' := by
  subst hM
  refine h.wq' (by omega) (by omega) (fun q hq => ?_)
  by_cases e : q.1 = 169
  · exact Or.inr (rfF_Q q hq e)
  · exact Or.inl e
theorem rmS {x y c N : Nat} (h : c ≤ N) (h2 : x + N ≤ y) : x ≤ y - c := by omega
theorem fp.trans' {M'' : rf_M} (h : fp B M) (h' : fp M M'') : fp B M'' := ⟨fun a k q => ⟨(h'.1 a k q).1.trans (h.1 a k q).1, (h'.1 a k q).2.1.trans (h.1 a k q).2.1, (h'.1 a k q).2.2.trans (h.1 a k q).2.2⟩, h'.2⟩
theorem pgA_mem {i : Int} (h : 0 ≤ i ∧ i < 12) : pgA i ∈ k1 := by
  have : ∀ n, n < 12 → 25 + 12 * n ∈ k1 := by decide
  exact this i.toNat (by omega)
theorem clA_mem {i : Int} (h : 0 ≤ i ∧ i < 8) : clA i ∈ k6 := by
  have : ∀ n, n < 8 → 196 + 16 * n ∈ k6 := by decide
  exact this i.toNat (by omega)
theorem pgA_ref {i : Int} (hM : kfr M) (h : 0 ≤ i ∧ i < 12) : M.2.2 24 i.toNat = some (pgA i) := by
  have : ∀ n, n < 12 → (24, n, 25 + 12 * n) ∈ rfF := by decide
  exact hM _ (this i.toNat (by omega))
theorem clA_ref {i : Int} (hM : kfr M) (h : 0 ≤ i ∧ i < 8) : M.2.2 195 i.toNat = some (clA i) := by
  have : ∀ n, n < 8 → (195, n, 196 + 16 * n) ∈ rfF := by decide
  exact hM _ (this i.toNat (by omega))
end FP
section PR
variable {cx : rf_C} {d : Nat × Nat} {i pc : Nat} {ls : rf_L} {st : List Value} {h : rf_H} {Q : Option Value → rf_H → Prop} {M : rf_M} {S : gS} {aux : List (Int × Nat)} {a b z : Int}
theorem p_gr {idx c ci k e : Nat} (hf : cx.1 i pc = some (.getfield idx, aux)) (hs : go cx S c ci) (hl : rf_lk aux (ci : Int) = some k) (hv : ∀ M : rf_M, rf_rd M (cx.2.2.1 (ci : Int) k) c k = va_rf (M.2.2 c k)) (hr : M.2.2 c k = some e) (kk : gx cx d i (pc + 3) ls (.ref e :: st) (M, S) Q) : gx cx d i pc ls (.ref c :: st) (M, S) Q := m_gf hf hs hl (by rw [hv, hr]; rfl) kk
theorem p_pi {idx c ci k : Nat} (hf : cx.1 i pc = some (.putfield idx, aux)) (hs : go cx S c ci) (hl : rf_lk aux (ci : Int) = some k) (hv : ∀ (M : rf_M) x, rf_wr M (cx.2.2.1 (ci : Int) k) c k (.int x) = some (rf_wi M c k x)) (kk : ∀ M', M' = wi M c k z → gx cx d i (pc + 3) ls st (M', S) Q) : gx cx d i pc ls (zv z :: .ref c :: st) (M, S) Q := m_pf hf hs hl (hv M _) (kk _ rfl)
theorem p_pb {idx c ci k : Nat} (hf : cx.1 i pc = some (.putfield idx, aux)) (hs : go cx S c ci) (hl : rf_lk aux (ci : Int) = some k) (hv : cx.2.2.1 (ci : Int) k = .boolean) (hz : z = 0 ∨ z = 1) (kk : ∀ M', M' = wi M c k z → gx cx d i (pc + 3) ls st (M', S) Q) : gx cx d i pc ls (zv z :: .ref c :: st) (M, S) Q := by
  refine m_pf hf hs hl (M' := wi M c k z) ?_ (kk _ rfl)
  rw [hv]
  rcases hz with rfl | rfl
  · show (if narrow .boolean (.int (Int32.ofInt 0)) = .int (Int32.ofInt 0) ∧ fits .boolean (.int (Int32.ofInt 0)) = true then some (rf_wi M c k (Int32.ofInt 0)) else none) = _
    rw [if_pos ⟨rfl, rfl⟩]; rfl
  · show (if narrow .boolean (.int (Int32.ofInt 1)) = .int (Int32.ofInt 1) ∧ fits .boolean (.int (Int32.ofInt 1)) = true then some (rf_wi M c k (Int32.ofInt 1)) else none) = _
    rw [if_pos ⟨rfl, rfl⟩]; rfl
theorem p_pl {idx c ci k : Nat} {x : Int64} (hf : cx.1 i pc = some (.putfield idx, aux)) (hs : go cx S c ci) (hl : rf_lk aux (ci : Int) = some k) (hv : ∀ (M : rf_M) x, rf_wr M (cx.2.2.1 (ci : Int) k) c k (.long x) = some (rf_wl M c k x)) (kk : ∀ M', M' = wl M c k x → gx cx d i (pc + 3) ls st (M', S) Q) : gx cx d i pc ls (.long x :: .ref c :: st) (M, S) Q := m_pf hf hs hl (hv M _) (kk _ rfl)
theorem p_pq {idx c ci k e : Nat} (hf : cx.1 i pc = some (.putfield idx, aux)) (hs : go cx S c ci) (hl : rf_lk aux (ci : Int) = some k) (hv : ∀ (M : rf_M) x, rf_wr M (cx.2.2.1 (ci : Int) k) c k (.ref x) = some (rf_wq M c k (some x))) (kk : ∀ M', M' = wq M c k e → gx cx d i (pc + 3) ls st (M', S) Q) : gx cx d i pc ls (.ref e :: .ref c :: st) (M, S) Q := m_pf hf hs hl (hv M _) (kk _ rfl)
theorem p_ist {c n : Nat} (hf : cx.1 i pc = some (.iastore, aux)) (hs : ga cx S c .int n) (hn : n ≤ 100000) (hj : 0 ≤ a ∧ a < n) (kk : ∀ M', M' = wi M c a.toNat z → gx cx d i (pc + 1) ls st (M', S) Q) : gx cx d i pc ls (zv z :: zv a :: .ref c :: st) (M, S) Q := by
  refine g4 hf rfl rfl (st' := st) (h' := (wi M c a.toNat z, S)) ?_ (kk _ rfl)
  show (if c < cx.2.2.2.2 then none else match rf_el (M, S) .int c (Int32.ofInt a) with | some _ => some (st, (rf_wi M c (Int32.ofInt a).toNatClampNeg (Int32.ofInt z), S)) | none => none) = _
  rw [if_neg (Nat.not_lt.mpr hs.1), hs.el _ (ix_z hj hn).1, (ix_z hj hn).2]
  rfl
theorem p_ls {c n : Nat} {x : Int64} (hf : cx.1 i pc = some (.lastore, aux)) (hs : ga cx S c .long n) (hn : n ≤ 100000) (hj : 0 ≤ a ∧ a < n) (kk : ∀ M', M' = wl M c a.toNat x → gx cx d i (pc + 1) ls st (M', S) Q) : gx cx d i pc ls (.long x :: zv a :: .ref c :: st) (M, S) Q := by
  refine g4 hf rfl rfl (st' := st) (h' := (wl M c a.toNat x, S)) ?_ (kk _ rfl)
  show (if c < cx.2.2.2.2 then none else match rf_el (M, S) .long c (Int32.ofInt a) with | some _ => some (st, (rf_wl M c (Int32.ofInt a).toNatClampNeg x, S)) | none => none) = _
  rw [if_neg (Nat.not_lt.mpr hs.1), hs.el _ (ix_z hj hn).1, (ix_z hj hn).2]
  rfl
theorem p_aa {c n e : Nat} {C : String} (hf : cx.1 i pc = some (.aaload, aux)) (hs : ga cx S c (.object C) n) (hn : n ≤ 100000) (hj : 0 ≤ a ∧ a < n) (hr : M.2.2 c a.toNat = some e) (kk : gx cx d i (pc + 1) ls (.ref e :: st) (M, S) Q) : gx cx d i pc ls (zv a :: .ref c :: st) (M, S) Q := by
  refine g4 hf rfl rfl (st' := .ref e :: st) (h' := (M, S)) ?_ kk
  show (match rf_aa (M, S) c with
    | some (.object C, n) => match rf_el (M, S) (.object C) c (Int32.ofInt a) with
      | some v => some (v :: st, (M, S))
      | none => none
    | some (.array t, n) => match rf_el (M, S) (.array t) c (Int32.ofInt a) with
      | some v => some (v :: st, (M, S))
      | none => none
    | _ => none) = _
  rw [hs.aa]
  dsimp only
  rw [hs.el _ (ix_z hj hn).1, (ix_z hj hn).2]
  show some (va_rf (M.2.2 c a.toNat) :: st, (M, S)) = _
  rw [hr]; rfl
theorem p_as {c n e ci : Nat} {C : String} (hf : cx.1 i pc = some (.aastore, aux)) (hs : ga cx S c (.object C) n) (ho : go cx S e ci) (hc : (cx.2.2.2.1[ci]?).map (fun q => q.1) = some C) (hn : n ≤ 100000) (hj : 0 ≤ a ∧ a < n) (kk : ∀ M', M' = wq M c a.toNat e → gx cx d i (pc + 1) ls st (M', S) Q) : gx cx d i pc ls (.ref e :: zv a :: .ref c :: st) (M, S) Q := by
  refine g4 hf rfl rfl (st' := st) (h' := (wq M c a.toNat e, S)) ?_ (kk _ rfl)
  show (if c < cx.2.2.2.2 ∨ e < cx.2.2.2.2 then none else match rf_aa (M, S) c, rf_ob (M, S) e with
    | some (.object C, n), some ci => if (cx.2.2.2.1[ci]?).map (fun q => q.1) = some C ∧ ¬ (Int32.ofInt a < 0 ∨ n ≤ (Int32.ofInt a).toNatClampNeg) then some (st, (rf_wq M c (Int32.ofInt a).toNatClampNeg (some e), S)) else none
    | _, _ => none) = _
  rw [if_neg (fun q => q.elim (Nat.not_lt.mpr hs.1) (Nat.not_lt.mpr ho.1)), hs.aa, ho.ob]
  dsimp only
  rw [if_pos ⟨hc, (ix_z hj hn).1⟩, (ix_z hj hn).2]
  rfl
theorem p_al {c n : Nat} {ty : FieldType} (hf : cx.1 i pc = some (.arraylength, aux)) (hs : ga cx S c ty n) (hz : nI n = Int32.ofInt z) (kk : gx cx d i (pc + 1) ls (zv z :: st) (M, S) Q) : gx cx d i pc ls (.ref c :: st) (M, S) Q := by
  refine g4 hf rfl rfl (st' := zv z :: st) (h' := (M, S)) ?_ kk
  show (match rf_aa (M, S) c with | some q => some (Value.int (nI q.2) :: st, (M, S)) | none => none) = _
  rw [hs.aa]
  show some (Value.int (nI n) :: st, (M, S)) = _
  rw [hz]
theorem n_acn {o : Int} {x y : Nat} (hf : cx.1 i pc = some (.if_acmp .ne o, aux)) (hx : cx.2.2.2.2 ≤ x) (hy : cx.2.2.2.2 ≤ y) (kt : ¬ x = y → gx cx d i (rf_tg aux) ls st h Q) (kf : x = y → gx cx d i (pc + 3) ls st h Q) : gx cx d i pc ls (.ref y :: .ref x :: st) h Q := by
  refine g3 hf rfl (pc' := if x = y then pc + 3 else rf_tg aux) (st' := st) ?_ ?_
  · show (if x < cx.2.2.2.2 ∨ y < cx.2.2.2.2 then none else some (if x = y then pc + 3 else rf_tg aux, st)) = _
    rw [if_neg (fun q => q.elim (Nat.not_lt.mpr hx) (Nat.not_lt.mpr hy))]
  · by_cases e : x = y
    · rw [if_pos e]; exact kf e
    · rw [if_neg e]; exact kt e
theorem cp_z {x : Int} {N : Nat} (h1 : 0 ≤ x) (h2 : x ≤ N) (hN : N ≤ 10000) : ¬ Int32.ofInt x < 0 ∧ (Int32.ofInt x).toNatClampNeg = x.toNat := by
  have := ix_z (a := x) (n := N + 1) ⟨h1, by omega⟩ (by omega)
  exact ⟨fun q => this.1 (Or.inl q), this.2⟩
theorem p_cpi {c1 c2 n1 n2 : Nat} {sp dp n : Int} {idx n0 : Nat} {rest : List Value} (hf : cx.1 i pc = some (.invokestatic idx, [(11, n0)])) (hs2 : ga cx S c2 .int n2) (hs1 : ga cx S c1 .int n1) (hn2 : n2 ≤ 10000) (hn1 : n1 ≤ 10000) (hq : (0 ≤ sp ∧ 0 ≤ dp ∧ 0 ≤ n) ∧ sp + n ≤ n2 ∧ dp + n ≤ n1) (hr : (rest.map fun v => v.category).sum ≤ 8) (hroom : 1 ≤ d.1 ∧ 26 ≤ d.2) (kk : ∀ M', M' = cpi M c2 sp.toNat c1 dp.toNat n.toNat → gx cx d i (pc + 3) ls rest (M', S) Q) : gx cx d i pc ls (zv n :: zv dp :: .ref c1 :: zv sp :: .ref c2 :: rest) (M, S) Q := by
  obtain ⟨⟨q1, q2, q3⟩, q4, q5⟩ := hq
  have e1 := cp_z (x := sp) (N := 10000) q1 (by omega) (by omega)
  have e2 := cp_z (x := dp) (N := 10000) q2 (by omega) (by omega)
  have e3 := cp_z (x := n) (N := 10000) q3 (by omega) (by omega)
  refine gx_step hf (pc' := pc + 3) (ls' := ls) (st' := rest) (h' := (cpi M c2 sp.toNat c1 dp.toNat n.toNat, S)) ?_ (kk _ rfl)
  unfold rf_ex
  simp only [show rf_kd (Instr.invokestatic idx) = 5 from rfl]
  show (if (10 : Int) ≤ 11 then (rf_bi cx 11 d (zv n :: zv dp :: .ref c1 :: zv sp :: .ref c2 :: rest) (M, S)).map _ else _) = _
  rw [if_pos (by decide)]
  have : rf_bi cx 11 d (zv n :: zv dp :: .ref c1 :: zv sp :: .ref c2 :: rest) (M, S) = some (rest, (cpi M c2 sp.toNat c1 dp.toNat n.toNat, S)) := by
    unfold rf_bi
    rw [if_neg (by decide), if_pos rfl]
    dsimp only
    rw [if_pos ⟨by unfold rf_ok8; rw [Bool.and_eq_true, decide_eq_true_eq, decide_eq_true_eq]; exact ⟨hroom.1, by omega⟩, Nat.not_lt.mpr hs1.1, Nat.not_lt.mpr hs2.1, e1.1, e2.1, e3.1⟩, hs1.aa, hs2.aa]
    dsimp only
    rw [e1.2, e2.2, e3.2, if_pos ⟨by omega, by omega⟩]
    rfl
  rw [this]
  rfl
theorem p_cpl {c1 c2 n1 n2 : Nat} {sp dp n : Int} {idx n0 : Nat} {rest : List Value} (hf : cx.1 i pc = some (.invokestatic idx, [(11, n0)])) (hs2 : ga cx S c2 .long n2) (hs1 : ga cx S c1 .long n1) (hn2 : n2 ≤ 10000) (hn1 : n1 ≤ 10000) (hq : (0 ≤ sp ∧ 0 ≤ dp ∧ 0 ≤ n) ∧ sp + n ≤ n2 ∧ dp + n ≤ n1) (hr : (rest.map fun v => v.category).sum ≤ 8) (hroom : 1 ≤ d.1 ∧ 26 ≤ d.2) (kk : ∀ M', M' = cpl M c2 sp.toNat c1 dp.toNat n.toNat → gx cx d i (pc + 3) ls rest (M', S) Q) : gx cx d i pc ls (zv n :: zv dp :: .ref c1 :: zv sp :: .ref c2 :: rest) (M, S) Q := by
  obtain ⟨⟨q1, q2, q3⟩, q4, q5⟩ := hq
  have e1 := cp_z (x := sp) (N := 10000) q1 (by omega) (by omega)
  have e2 := cp_z (x := dp) (N := 10000) q2 (by omega) (by omega)
  have e3 := cp_z (x := n) (N := 10000) q3 (by omega) (by omega)
  refine gx_step hf (pc' := pc + 3) (ls' := ls) (st' := rest) (h' := (cpl M c2 sp.toNat c1 dp.toNat n.toNat, S)) ?_ (kk _ rfl)
  unfold rf_ex
  simp only [show rf_kd (Instr.invokestatic idx) = 5 from rfl]
  show (if (10 : Int) ≤ 11 then (rf_bi cx 11 d (zv n :: zv dp :: .ref c1 :: zv sp :: .ref c2 :: rest) (M, S)).map _ else _) = _
  rw [if_pos (by decide)]
  have : rf_bi cx 11 d (zv n :: zv dp :: .ref c1 :: zv sp :: .ref c2 :: rest) (M, S) = some (rest, (cpl M c2 sp.toNat c1 dp.toNat n.toNat, S)) := by
    unfold rf_bi
    rw [if_neg (by decide), if_pos rfl]
    dsimp only
    rw [if_pos ⟨by unfold rf_ok8; rw [Bool.and_eq_true, decide_eq_true_eq, decide_eq_true_eq]; exact ⟨hroom.1, by omega⟩, Nat.not_lt.mpr hs1.1, Nat.not_lt.mpr hs2.1, e1.1, e2.1, e3.1⟩, hs1.aa, hs2.aa]
    dsimp only
    rw [e1.2, e2.2, e3.2, if_pos ⟨by omega, by omega⟩]
    rfl
  rw [this]
  rfl
theorem p_max {J : Instr} (hf : cx.1 i pc = some (J, [(13, 0)])) (hk : rf_kd J = 5) (ha : inr a) (hb : inr b) (hc : (st.map fun v => v.category).sum ≤ 8) (hroom : 1 ≤ d.1 ∧ 21 ≤ d.2) (kk : gx cx d i (pc + 3) ls (zv (if a < b then b else a) :: st) (M, S) Q) : gx cx d i pc ls (zv b :: zv a :: st) (M, S) Q := by
  have e : (if Int32.ofInt a < Int32.ofInt b then Int32.ofInt b else Int32.ofInt a) = Int32.ofInt (if a < b then b else a) := by
    have : Int32.ofInt a < Int32.ofInt b ↔ a < b := by
      rw [Int32.lt_iff_toInt_lt, ti_ofi ha, ti_ofi hb]
    by_cases q : a < b
    · rw [if_pos (this.mpr q), if_pos q]
    · rw [if_neg (fun z => q (this.mp z)), if_neg q]
  refine gx_step hf (pc' := pc + 3) (ls' := ls) (st' := zv (if a < b then b else a) :: st) (h' := (M, S)) ?_ kk
  unfold rf_ex
  simp only [hk]
  show (if (10 : Int) ≤ 13 then (rf_bi cx 13 d (zv b :: zv a :: st) (M, S)).map _ else _) = _
  rw [if_pos (by decide)]
  show ((if rf_ok8 st d 13 = true then some (Value.int (if Int32.ofInt a < Int32.ofInt b then Int32.ofInt b else Int32.ofInt a) :: st, (M, S)) else none).map _) = _
  rw [if_pos (by unfold rf_ok8; rw [Bool.and_eq_true, decide_eq_true_eq, decide_eq_true_eq]; exact ⟨hroom.1, by omega⟩), e]
  rfl
/-- answers -/
def vp_i (B : rf_M) (S : gS) (K : Int → rf_M → Prop) (r : Option Value) (h' : rf_H) : Prop := ∃ z M', r = some (zv z) ∧ h' = (M', S) ∧ fp B M' ∧ K z M'
def vp_l (B : rf_M) (S : gS) (K : Int64 → rf_M → Prop) (r : Option Value) (h' : rf_H) : Prop := ∃ z M', r = some (.long z) ∧ h' = (M', S) ∧ fp B M' ∧ K z M'
def vp_v (B : rf_M) (S : gS) (K : rf_M → Prop) (r : Option Value) (h' : rf_H) : Prop := ∃ M', r = none ∧ h' = (M', S) ∧ fp B M' ∧ K M'
theorem p_rb {B : rf_M} {K : Int → rf_M → Prop} (hf : cx.1 i pc = some (.ireturn, aux)) (hr : (cx.2.1 i).2.2.2 = some .boolean) (hz : z = 0 ∨ z = 1) (hR : fp B M) (hK : K z M) : gx cx d i pc ls [zv z] (M, S) (vp_i B S K) := by
  refine gx_ret hf (v := some (zv z)) ?_ ⟨z, M, rfl, rfl, hR, hK⟩
  show (rf_rt .ireturn (cx.2.1 i).2.2.2 [zv z]).map _ = _
  rw [hr]
  rcases hz with rfl | rfl <;> rfl
end PR
