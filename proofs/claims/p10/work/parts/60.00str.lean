/-! ROWS over a memory M, also for the old cells (texts) -/
section GROW2
variable {cx : rf_C} {d : Nat × Nat} {i pc : Nat} {ls : rf_L} {st : List Value} {Q : Option Value → rf_H → Prop} {M : rf_M} {S : gS} {aux : List (Int × Nat)}
def oa (S : gS) (a : Nat) (ty : FieldType) (n : Nat) : Prop := 0 < a ∧ a < S.2.1 ∧ S.1 a = .inr (ty, n)
def oo (cx : rf_C) (S : gS) (a : Nat) : Prop := 0 < a ∧ a < cx.2.2.2.2 ∧ a < S.2.1 ∧ S.1 a = .inl 0
theorem ga.oa {a n : Nat} {ty : FieldType} (h : ga cx S a ty n) : oa S a ty n := ⟨h.2.1, h.2.2.1, h.2.2.2⟩
theorem oa.aa {a n : Nat} {ty : FieldType} (h : oa S a ty n) (M : rf_M) : rf_aa (M, S) a = some (ty, n) := by
  unfold rf_aa
  rw [if_pos ⟨h.1, h.2.1⟩]
  show (match S.1 a with | .inr q => some q | .inl _ => none) = some (ty, n)
  rw [h.2.2]
theorem oa.el {a n : Nat} {ty : FieldType} (hs : oa S a ty n) (M : rf_M) {j : Int32} (hj : ¬ (j < 0 ∨ n ≤ j.toNatClampNeg)) : rf_el (M, S) ty a j = some (rf_rd M ty a j.toNatClampNeg) := by
  unfold rf_el
  rw [hs.aa M]
  show (if ty = ty ∧ ¬ (j < 0 ∨ n ≤ j.toNatClampNeg) then _ else _) = _
  rw [if_pos ⟨rfl, hj⟩]
theorem oo.ob {a : Nat} (h : oo cx S a) (M : rf_M) : rf_ob (M, S) a = some 0 := by
  unfold rf_ob
  rw [if_pos ⟨h.1, h.2.2.1⟩]
  show (match S.1 a with | .inl ci => some ci | .inr _ => none) = some 0
  rw [h.2.2.2]
theorem oo.ky {a : Nat} (h : oo cx S a) : rf_ky cx.2.2.2.2 a 0 = -1 := by
  unfold rf_ky
  rw [if_pos h.2.1]
  rfl
/-- an index within an array -/
theorem ix_ok {j : Int32} {k n : Nat} (hj : j.toInt = (k : Int)) (hk : k < n) : ¬ (j < 0 ∨ n ≤ j.toNatClampNeg) := by
  have e : j.toNatClampNeg = j.toInt.toNat := rfl
  rw [Int32.lt_iff_toInt_lt, Int32.toInt_zero, e]
  omega
theorem ix_nat {j : Int32} {k : Nat} (hj : j.toInt = (k : Int)) : j.toNatClampNeg = k := by
  have e : j.toNatClampNeg = j.toInt.toNat := rfl
  omega
theorem m_gf {idx a ci k : Nat} {v : Value} (hf : cx.1 i pc = some (.getfield idx, aux)) (hs : go cx S a ci) (hl : rf_lk aux (ci : Int) = some k) (hv : rf_rd M (cx.2.2.1 (ci : Int) k) a k = v) (kk : gx cx d i (pc + 3) ls (v :: st) (M, S) Q) : gx cx d i pc ls (.ref a :: st) (M, S) Q := g_gf hf hs hl hv kk
theorem m_gfo {idx a k : Nat} {v : Value} (hf : cx.1 i pc = some (.getfield idx, aux)) (hs : oo cx S a) (hl : rf_lk aux (-1) = some k) (hv : rf_rd M (cx.2.2.1 (-1) k) a k = v) (kk : gx cx d i (pc + 3) ls (v :: st) (M, S) Q) : gx cx d i pc ls (.ref a :: st) (M, S) Q := by
  refine g4 hf rfl rfl (st' := v :: st) (h' := (M, S)) ?_ kk
  show (match rf_ob (M, S) a with
    | some ci => match rf_lk aux (rf_ky cx.2.2.2.2 a ci) with
      | some k => some (rf_rd M (cx.2.2.1 (rf_ky cx.2.2.2.2 a ci) k) a k :: st, (M, S))
      | none => none
    | none => none) = _
  rw [hs.ob]
  dsimp only
  rw [hs.ky, hl]
  dsimp only
  rw [hv]
theorem m_ln {a n : Nat} {ty : FieldType} (hf : cx.1 i pc = some (.arraylength, aux)) (hs : oa S a ty n) (kk : gx cx d i (pc + 1) ls (.int (nI n) :: st) (M, S) Q) : gx cx d i pc ls (.ref a :: st) (M, S) Q := by
  refine g4 hf rfl rfl (st' := .int (nI n) :: st) (h' := (M, S)) ?_ kk
  show (match rf_aa (M, S) a with | some q => some (Value.int (nI q.2) :: st, (M, S)) | none => none) = _
  rw [hs.aa]
theorem m_il {a n k : Nat} {j : Int32} (hf : cx.1 i pc = some (.iaload, aux)) (hs : oa S a .int n) (hj : j.toInt = (k : Int)) (hk : k < n) (kk : gx cx d i (pc + 1) ls (.int (M.1 a k) :: st) (M, S) Q) : gx cx d i pc ls (.int j :: .ref a :: st) (M, S) Q := by
  refine g4 hf rfl rfl (st' := .int (M.1 a k) :: st) (h' := (M, S)) ?_ kk
  show (match rf_el (M, S) .int a j with | some v => some (v :: st, (M, S)) | none => none) = _
  rw [hs.el _ (ix_ok hj hk), ix_nat hj]
  rfl
theorem m_bl {a n k : Nat} {j : Int32} (hf : cx.1 i pc = some (.baload, aux)) (hs : oa S a .byte n) (hj : j.toInt = (k : Int)) (hk : k < n) (kk : gx cx d i (pc + 1) ls (.int (M.1 a k) :: st) (M, S) Q) : gx cx d i pc ls (.int j :: .ref a :: st) (M, S) Q := by
  refine g4 hf rfl rfl (st' := .int (M.1 a k) :: st) (h' := (M, S)) ?_ kk
  show (match rf_el (M, S) .byte a j with
    | some v => some (v :: st, (M, S))
    | none => match rf_el (M, S) .boolean a j with
      | some v => some (v :: st, (M, S))
      | none => none) = _
  rw [hs.el _ (ix_ok hj hk), ix_nat hj]
  rfl
theorem m_is {a n k : Nat} {j x : Int32} (hf : cx.1 i pc = some (.iastore, aux)) (hs : ga cx S a .int n) (hj : j.toInt = (k : Int)) (hk : k < n) (kk : gx cx d i (pc + 1) ls st (rf_wi M a k x, S) Q) : gx cx d i pc ls (.int x :: .int j :: .ref a :: st) (M, S) Q := by
  refine g4 hf rfl rfl (st' := st) (h' := (rf_wi M a k x, S)) ?_ kk
  show (if a < cx.2.2.2.2 then none else match rf_el (M, S) .int a j with | some _ => some (st, (rf_wi M a j.toNatClampNeg x, S)) | none => none) = _
  rw [if_neg (Nat.not_lt.mpr hs.1), hs.el _ (ix_ok hj hk), ix_nat hj]
theorem m_pf {idx a ci k : Nat} {v : Value} {M' : rf_M} (hf : cx.1 i pc = some (.putfield idx, aux)) (hs : go cx S a ci) (hl : rf_lk aux (ci : Int) = some k) (hv : rf_wr M (cx.2.2.1 (ci : Int) k) a k v = some M') (kk : gx cx d i (pc + 3) ls st (M', S) Q) : gx cx d i pc ls (v :: .ref a :: st) (M, S) Q := g_pf hf hs hl hv kk
theorem m_st {idx j n : Nat} {kd z : Int} {as rest : List Value} (hf : cx.1 i pc = some (.invokestatic idx, [(kd, n), (z, j)])) (hk : ¬ 10 ≤ kd) (hn : as.length = n) (hc : (rest.map fun v => v.category).sum ≤ 8) (hroom : 1 ≤ d.1 ∧ (cx.2.1 j).2.2.1 + 19 ≤ d.2 ∧ (lg_sl as).length ≤ (cx.2.1 j).2.2.1) (k : gx cx (d.1 - 1, d.2 - ((cx.2.1 j).2.2.1 + 19)) j 0 (lv_args 0 as) [] (M, S) (fun r h' => gx cx d i (pc + 3) ls (r.toList ++ rest) h' Q)) : gx cx d i pc ls (as.reverse ++ rest) (M, S) Q := by
  refine gx_call hf (j := j) (as := as) (rest := rest) ?_ hroom k
  subst hn
  have h1 : (as.reverse ++ rest).drop as.length = rest := by
    rw [← List.length_reverse]; exact List.drop_left
  have h2 : (as.reverse ++ rest).take as.length = as.reverse := by
    rw [← List.length_reverse]; exact List.take_left
  unfold rf_ex
  show (if 10 ≤ kd then _ else _) = _
  rw [if_neg hk]
  unfold rf_ca
  dsimp only
  rw [h1, if_pos ⟨by simp, hc⟩, h2, List.reverse_reverse]
  rfl
theorem m_ivo {idx a j n : Nat} {kd : Int} {tg : List (Int × Nat)} {as rest : List Value} (hf : cx.1 i pc = some (.invokevirtual idx, (kd, n) :: tg)) (hk : ¬ 10 ≤ kd) (hs : oo cx S a) (hl : rf_lk tg (-1) = some j) (hn : as.length = n) (hc : (rest.map fun v => v.category).sum ≤ 8) (hroom : 1 ≤ d.1 ∧ (cx.2.1 j).2.2.1 + 19 ≤ d.2 ∧ (lg_sl (.ref a :: as)).length ≤ (cx.2.1 j).2.2.1) (k : gx cx (d.1 - 1, d.2 - ((cx.2.1 j).2.2.1 + 19)) j 0 (lv_args 0 (.ref a :: as)) [] (M, S) (fun r h' => gx cx d i (pc + 3) ls (r.toList ++ rest) h' Q)) : gx cx d i pc ls (as.reverse ++ .ref a :: rest) (M, S) Q := by
  refine gx_call hf (j := j) (as := .ref a :: as) (rest := rest) ?_ hroom k
  subst hn
  have h1 : (as.reverse ++ .ref a :: rest).drop as.length = .ref a :: rest := by
    rw [← List.length_reverse]; exact List.drop_left
  have h2 : (as.reverse ++ .ref a :: rest).take as.length = as.reverse := by
    rw [← List.length_reverse]; exact List.take_left
  unfold rf_ex
  show (if 10 ≤ kd then _ else _) = _
  rw [if_neg hk]
  unfold rf_ca
  dsimp only
  rw [h1]
  dsimp only
  rw [hs.ob]
  dsimp only
  rw [hs.ky, hl]
  dsimp only
  rw [if_pos ⟨by simp, hc⟩, h2, List.reverse_reverse]
  rfl
end GROW2
/-! TEXTS: a word lies at a, its letters at b -/
def tx_w (fz : Bool) (S : gS) (M : rf_M) (a b n : Nat) : Prop := oo (cx0 fz) S a ∧ oa S b .byte n ∧ M.2.2 a 0 = some b ∧ M.1 a 1 = 0 ∧ n ≤ 100 ∧ ∀ k, k < n → ∃ c : Nat, c < 128 ∧ M.1 b k = Int32.ofNat c
section TX
variable {fz : Bool} {S : gS} {M : rf_M} {a b n : Nat}
theorem nI_int {k : Nat} (h : k ≤ 100000) : (nI k).toInt = (k : Int) := by
  unfold nI
  rw [Int32.toInt_ofNat']
  exact Int.bmod_eq_of_le (by have : Int32.size = 4294967296 := rfl; omega) (by have : Int32.size = 4294967296 := rfl; omega)
theorem tx_rd0 (h : tx_w fz S M a b n) : rf_rd M ((cx0 fz).2.2.1 (-1) 0) a 0 = .ref b := by
  show va_rf (M.2.2 a 0) = _
  rw [h.2.2.1]; rfl
theorem tx_rd1 (h : tx_w fz S M a b n) : rf_rd M ((cx0 fz).2.2.1 (-1) 1) a 1 = .int 0 := by
  show Value.int (M.1 a 1) = _
  rw [h.2.2.2.1]
theorem tx_coder (h : tx_w fz S M a b n) : gx (cx0 fz) (0, 0) 26 0 [(0, .ref a)] [] (M, S) (fun r h' => r = some (.int 0) ∧ h' = (M, S)) := by
  refine g7 (n := 3) rfl rfl rfl rfl ?_
  refine g_if rfl (fun c => absurd c (by decide)) (fun _ => ?_)
  refine g1 (n := 1) rfl rfl rfl rfl ?_
  refine m_gfo rfl h.1 rfl (tx_rd1 h) ?_
  refine g3 rfl rfl rfl ?_
  exact gx_ret (v := some (.int 0)) rfl rfl ⟨rfl, rfl⟩
theorem tx_len (h : tx_w fz S M a b n) : gx (cx0 fz) (1, 30) 25 0 [(0, .ref a)] [] (M, S) (fun r h' => r = some (.int (nI n)) ∧ h' = (M, S)) := by
  refine g1 (n := 1) rfl rfl rfl rfl ?_
  refine m_gfo rfl h.1 rfl (tx_rd0 h) ?_
  refine m_ln rfl h.2.1 ?_
  refine g1 (n := 1) rfl rfl rfl rfl ?_
  refine m_ivo (a := a) (as := []) (rest := [.int (nI n)]) rfl (by decide) h.1 rfl rfl (Nat.le_of_ble_eq_true rfl) ⟨Nat.le_of_ble_eq_true rfl, Nat.le_of_ble_eq_true rfl, Nat.le_of_ble_eq_true rfl⟩ ?_
  refine gx_room (gx_mono (tx_coder h) ?_) (Nat.zero_le _) (Nat.zero_le _)
  rintro r h' ⟨rfl, rfl⟩
  refine g0 rfl rfl rfl ?_
  have e : nI n >>> ((0 : Int32) &&& 31) = nI n := by
    have e0 : (0 : Int32) &&& 31 = 0 := by decide
    rw [e0]; exact Int32.shiftRight_zero
  rw [e]
  exact gx_ret rfl rfl ⟨rfl, rfl⟩
theorem tx_lat (h : tx_w fz S M a b n) : gx (cx0 fz) (0, 0) 28 0 [(0, .ref a)] [] (M, S) (fun r h' => r = some (.int 1) ∧ h' = (M, S)) := by
  refine g7 (n := 3) rfl rfl rfl rfl ?_
  refine g_if rfl (fun c => absurd c (by decide)) (fun _ => ?_)
  refine g1 (n := 1) rfl rfl rfl rfl ?_
  refine m_gfo rfl h.1 rfl (tx_rd1 h) ?_
  refine g_if rfl (fun c => absurd c (by decide)) (fun _ => ?_)
  refine g1 (n := 1) rfl rfl rfl rfl ?_
  refine g3 rfl rfl rfl ?_
  exact gx_ret (v := some (.int 1)) rfl rfl ⟨rfl, rfl⟩
theorem tx_pre {x y : Int32} {v : Value} (h1 : 0 ≤ x.toInt) (h2 : x.toInt < y.toInt) : gx (cx0 fz) (0, 0) 31 0 [(0, .int x), (1, .int y), (2, v)] [] (M, S) (fun r h' => r = some (.int x) ∧ h' = (M, S)) := by
  refine g1 (n := 1) rfl rfl rfl rfl ?_
  refine g_if rfl (fun c => ?_) (fun _ => ?_)
  · have c := (rf_cc_iff _ _ _).mp c
    have c : x.toInt < (0 : Int32).toInt := c
    rw [Int32.toInt_zero] at c
    omega
  refine g1 (n := 1) rfl rfl rfl rfl ?_
  refine g1 (n := 1) rfl rfl rfl rfl ?_
  refine g_ic rfl (fun _ => ?_) (fun c => absurd ((rf_cc_iff x y .lt).mpr h2) c)
  refine g1 (n := 1) rfl rfl rfl rfl ?_
  exact gx_ret rfl rfl ⟨rfl, rfl⟩
theorem tx_chk {x y : Int32} (h1 : 0 ≤ x.toInt) (h2 : x.toInt < y.toInt) : gx (cx0 fz) (1, 30) 30 0 [(0, .int x), (1, .int y)] [] (M, S) (fun r h' => r = none ∧ h' = (M, S)) := by
  refine g1 (n := 1) rfl rfl rfl rfl ?_
  refine g1 (n := 1) rfl rfl rfl rfl ?_
  cases fz
  · refine g7 (n := 3) rfl rfl rfl rfl ?_
    refine m_st (as := [.int x, .int y, .null]) (rest := []) rfl (by decide) rfl (Nat.le_of_ble_eq_true rfl) ⟨Nat.le_of_ble_eq_true rfl, Nat.le_of_ble_eq_true rfl, Nat.le_of_ble_eq_true rfl⟩ ?_
    refine gx_room (gx_mono (tx_pre h1 h2) ?_) (Nat.zero_le _) (Nat.zero_le _)
    rintro r h' ⟨rfl, rfl⟩
    refine g0 rfl rfl rfl ?_
    exact gx_ret rfl rfl ⟨rfl, rfl⟩
  · refine g7 (n := 3) rfl rfl rfl rfl ?_
    refine m_st (as := [.int x, .int y, .ref 0]) (rest := []) rfl (by decide) rfl (Nat.le_of_ble_eq_true rfl) ⟨Nat.le_of_ble_eq_true rfl, Nat.le_of_ble_eq_true rfl, Nat.le_of_ble_eq_true rfl⟩ ?_
    refine gx_room (gx_mono (tx_pre h1 h2) ?_) (Nat.zero_le _) (Nat.zero_le _)
    rintro r h' ⟨rfl, rfl⟩
    refine g0 rfl rfl rfl ?_
    exact gx_ret rfl rfl ⟨rfl, rfl⟩
theorem tx_chr : ∀ v ∈ List.range 128, (((Int32.ofNat v) &&& (Int16.ofInt 255).toInt32).toUInt32 % 65536).toInt32 = Int32.ofNat v ∧ narrow .char (.int (Int32.ofNat v)) = .int (Int32.ofNat v) := by decide +kernel
theorem tx_l1 {k : Nat} {x : Int32} (h : tx_w fz S M a b n) (hx : x.toInt = (k : Int)) (hk : k < n) : gx (cx0 fz) (2, 60) 29 0 [(0, .ref b), (1, .int x)] [] (M, S) (fun r h' => r = some (.int (M.1 b k)) ∧ h' = (M, S)) := by
  have hn := h.2.2.2.2.1
  refine g1 (n := 1) rfl rfl rfl rfl ?_
  refine g1 (n := 1) rfl rfl rfl rfl ?_
  refine m_ln rfl h.2.1 ?_
  refine m_st (as := [.int x, .int (nI n)]) (rest := []) rfl (by decide) rfl (Nat.le_of_ble_eq_true rfl) ⟨Nat.le_of_ble_eq_true rfl, Nat.le_of_ble_eq_true rfl, Nat.le_of_ble_eq_true rfl⟩ ?_
  refine gx_room (gx_mono (tx_chk (by omega) (by rw [nI_int (by omega)]; omega)) ?_) (Nat.le_of_ble_eq_true rfl) (Nat.le_of_ble_eq_true rfl)
  rintro r h' ⟨rfl, rfl⟩
  refine g1 (n := 1) rfl rfl rfl rfl ?_
  refine g1 (n := 1) rfl rfl rfl rfl ?_
  refine m_bl rfl h.2.1 hx hk ?_
  obtain ⟨c, hc, hv⟩ := h.2.2.2.2.2 k hk
  obtain ⟨e1, e2⟩ := tx_chr c (List.mem_range.mpr hc)
  rw [hv]
  refine g1 (n := 3) rfl rfl rfl rfl ?_
  refine g0 rfl rfl rfl ?_
  refine g0 rfl rfl rfl ?_
  rw [e1]
  exact gx_ret (v := some (.int (Int32.ofNat c))) rfl (by show Option.map _ (if narrow .char (.int (Int32.ofNat c)) = .int (Int32.ofNat c) then _ else _) = _; rw [if_pos e2]; rfl) ⟨rfl, rfl⟩
theorem tx_char {k : Nat} {x : Int32} (h : tx_w fz S M a b n) (hx : x.toInt = (k : Int)) (hk : k < n) : gx (cx0 fz) (3, 90) 27 0 [(0, .ref a), (1, .int x)] [] (M, S) (fun r h' => r = some (.int (M.1 b k)) ∧ h' = (M, S)) := by
  refine g1 (n := 1) rfl rfl rfl rfl ?_
  refine m_ivo (a := a) (as := []) (rest := []) rfl (by decide) h.1 rfl rfl (Nat.le_of_ble_eq_true rfl) ⟨Nat.le_of_ble_eq_true rfl, Nat.le_of_ble_eq_true rfl, Nat.le_of_ble_eq_true rfl⟩ ?_
  refine gx_room (gx_mono (tx_lat h) ?_) (Nat.zero_le _) (Nat.zero_le _)
  rintro r h' ⟨rfl, rfl⟩
  refine g_if rfl (fun c => absurd c (by decide)) (fun _ => ?_)
  refine g1 (n := 1) rfl rfl rfl rfl ?_
  refine m_gfo rfl h.1 rfl (tx_rd0 h) ?_
  refine g1 (n := 1) rfl rfl rfl rfl ?_
  refine m_st (as := [.ref b, .int x]) (rest := []) rfl (by decide) rfl (Nat.le_of_ble_eq_true rfl) ⟨Nat.le_of_ble_eq_true rfl, Nat.le_of_ble_eq_true rfl, Nat.le_of_ble_eq_true rfl⟩ ?_
  refine gx_room (gx_mono (tx_l1 h hx hk) ?_) (Nat.le_of_ble_eq_true rfl) (Nat.le_of_ble_eq_true rfl)
  rintro r h' ⟨rfl, rfl⟩
  obtain ⟨c, hc, hv⟩ := h.2.2.2.2.2 k hk
  obtain ⟨e1, e2⟩ := tx_chr c (List.mem_range.mpr hc)
  rw [hv]
  exact gx_ret (v := some (.int (Int32.ofNat c))) rfl (by show Option.map _ (if narrow .char (.int (Int32.ofNat c)) = .int (Int32.ofNat c) then _ else _) = _; rw [if_pos e2]; rfl) ⟨rfl, rfl⟩
end TX
/-! THE SCANNER: what it reads -/
def sp_l (x : Int32) : Bool := decide (97 ≤ x.toInt) && decide (x.toInt ≤ 122)
def sp_d (x : Int32) : Bool := decide (48 ≤ x.toInt) && decide (x.toInt ≤ 57)
def sp_s (x : Int32) : Bool := [61, 59, 40, 41, 123, 125, 60, 35, 43, 45, 42, 47, 37].elem x.toInt
def bI (c : Bool) : Int32 := if c then 1 else 0
def sp_end (p : Int32 → Bool) (b : Nat → Int32) (n : Nat) : Nat → Nat → Nat
  | 0, i => i
  | f + 1, i => if i < n ∧ p (b i) = true then sp_end p b n f (i + 1) else i
/-- where a row of such bytes ends -/
def sp_e (p : Int32 → Bool) (b : Nat → Int32) (n i : Nat) : Nat := sp_end p b n (n - i) i
