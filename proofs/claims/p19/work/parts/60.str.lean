/-! ROWS over a memory M, also for the old cells (texts) -/
section GROW2
variable {cx : rf_C} {d : Nat × Nat} {i pc : Nat} {ls : rf_L} {st : List Value} {Q : Option Value → rf_H → Prop} {M : rf_M} {S : gS} {aux : List (Int × Nat)}
def oa (S : gS) (a : Nat) (ty : FieldType) (n : Nat) : Prop := 0 < a ∧ a < S.2.1 ∧ S.1 a = .inr (ty, n)
def oo (cx : rf_C) (S : gS) (a : Nat) : Prop := 0 < a ∧ a < cx.2.2.2.2 ∧ a < S.2.1 ∧ S.1 a = .inl 0
theorem ga.oa {a n : Nat} {ty : FieldType} (h : ga cx S a ty n) : oa S a ty n := ⟨h.2.1, h.2.2.1, h.2.2.2⟩
theorem oa.aa {a n : Nat} {ty : FieldType} (h : oa S a ty n) (M : rf_M) : rf_aa (M, S) a = some (ty, n) := by
  unfold rf_aa
  rw [if_pos ⟨h.1, h.2.1⟩]
  show (match S.1 a with | .inr q => some q | .inl _ => none) = some (ty, n)
  rw [h.2.2]
theorem oa.el {a n : Nat} {ty : FieldType} (hs : oa S a ty n) (M : rf_M) {j : Int32} (hj : ¬ (j < 0 ∨ n ≤ j.toNatClampNeg)) : rf_el (M, S) ty a j = some (rf_rd M ty a j.toNatClampNeg) := by
  unfold rf_el
  rw [hs.aa M]
  show (if ty = ty ∧ ¬ (j < 0 ∨ n ≤ j.toNatClampNeg) then _ else _) = _
  rw [if_pos ⟨rfl, hj⟩]
theorem oo.ob {a : Nat} (h : oo cx S a) (M : rf_M) : rf_ob (M, S) a = some 0 := by
  unfold rf_ob
  rw [if_pos ⟨h.1, h.2.2.1⟩]
  show (match S.1 a with | .inl ci => some ci | .inr _ => none) = some 0
  rw [h.2.2.2]
theorem oo.ky {a : Nat} (h : oo cx S a) : rf_ky cx.2.2.2.2 a 0 = -1 := by
  unfold rf_ky
  rw [if_pos h.2.1]
  rfl
/-- an index within an array -/
theorem ix_ok {j : Int32} {k n : Nat} (hj : j.toInt = (k : Int)) (hk : k < n) : ¬ (j < 0 ∨ n ≤ j.toNatClampNeg) := by
  have e : j.toNatClampNeg = j.toInt.toNat := rfl
  rw [Int32.lt_iff_toInt_lt, Int32.toInt_zero, e]
  omega
theorem ix_nat {j : Int32} {k : Nat} (hj : j.toInt = (k : Int)) : j.toNatClampNeg = k := by
  have e : j.toNatClampNeg = j.toInt.toNat := rfl
  omega
theorem m_gf {idx a ci k : Nat} {v : Value} (hf : cx.1 i pc = some (.getfield idx, aux)) (hs : go cx S a ci) (hl : rf_lk aux (ci : Int) = some k) (hv : rf_rd M (cx.2.2.1 (ci : Int) k) a k = v) (kk : gx cx d i (pc + 3) ls (v :: st) (M, S) Q) : gx cx d i pc ls (.ref a :: st) (M, S) Q := g_gf hf hs hl hv kk
theorem m_gfo {idx a k : Nat} {v : Value} (hf : cx.1 i pc = some (.getfield idx, aux)) (hs : oo cx S a) (hl : rf_lk aux (-1) = some k) (hv : rf_rd M (cx.2.2.1 (-1) k) a k = v) (kk : gx cx d i (pc + 3) ls (v :: st) (M, S) Q) : gx cx d i pc ls (.ref a :: st) (M, S) Q := by
  refine g4 hf rfl rfl (st' := v :: st) (h' := (M, S)) ?_ kk
  show (match rf_ob (M, S) a with
    | some ci => match rf_lk aux (rf_ky cx.2.2.2.2 a ci) with
      | some k => some (rf_rd M (cx.2.2.1 (rf_ky cx.2.2.2.2 a ci) k) a k :: st, (M, S))
      | none => none
    | none => none) = _
  rw [hs.ob]
  dsimp only
  rw [hs.ky, hl]
  dsimp only
  rw [hv]
theorem m_ln {a n : Nat} {ty : FieldType} (hf : cx.1 i pc = some (.arraylength, aux)) (hs : oa S a ty n) (kk : gx cx d i (pc + 1) ls (.int (nI n) :: st) (M, S) Q) : gx cx d i pc ls (.ref a :: st) (M, S) Q := by
  refine g4 hf rfl rfl (st' := .int (nI n) :: st) (h' := (M, S)) ?_ kk
  show (match rf_aa (M, S) a with | some q => some (Value.int (nI q.2) :: st, (M, S)) | none => none) = _
  rw [hs.aa]
theorem m_il {a n k : Nat} {j : Int32} (hf : cx.1 i pc = some (.iaload, aux)) (hs : oa S a .int n) (hj : j.toInt = (k : Int)) (hk : k < n) (kk : gx cx d i (pc + 1) ls (.int (M.1 a k) :: st) (M, S) Q) : gx cx d i pc ls (.int j :: .ref a :: st) (M, S) Q := by
  refine g4 hf rfl rfl (st' := .int (M.1 a k) :: st) (h' := (M, S)) ?_ kk
  show (match rf_el (M, S) .int a j with | some v => some (v :: st, (M, S)) | none => none) = _
  rw [hs.el _ (ix_ok hj hk), ix_nat hj]
  rfl
theorem m_bl {a n k : Nat} {j : Int32} (hf : cx.1 i pc = some (.baload, aux)) (hs : oa S a .byte n) (hj : j.toInt = (k : Int)) (hk : k < n) (kk : gx cx d i (pc + 1) ls (.int (M.1 a k) :: st) (M, S) Q) : gx cx d i pc ls (.int j :: .ref a :: st) (M, S) Q := by
  refine g4 hf rfl rfl (st' := .int (M.1 a k) :: st) (h' := (M, S)) ?_ kk
  show (match rf_el (M, S) .byte a j with
    | some v => some (v :: st, (M, S))
    | none => match rf_el (M, S) .boolean a j with
      | some v => some (v :: st, (M, S))
      | none => none) = _
  rw [hs.el _ (ix_ok hj hk), ix_nat hj]
  rfl
theorem m_is {a n k : Nat} {j x : Int32} (hf : cx.1 i pc = some (.iastore, aux)) (hs : ga cx S a .int n) (hj : j.toInt = (k : Int)) (hk : k < n) (kk : gx cx d i (pc + 1) ls st (rf_wi M a k x, S) Q) : gx cx d i pc ls (.int x :: .int j :: .ref a :: st) (M, S) Q := by
  refine g4 hf rfl rfl (st' := st) (h' := (rf_wi M a k x, S)) ?_ kk
  show (if a < cx.2.2.2.2 then none else match rf_el (M, S) .int a j with | some _ => some (st, (rf_wi M a j.toNatClampNeg x, S)) | none => none) = _
  rw [if_neg (Nat.not_lt.mpr hs.1), hs.el _ (ix_ok hj hk), ix_nat hj]
theorem m_pf {idx a ci k : Nat} {v : Value} {M' : rf_M} (hf : cx.1 i pc = some (.putfield idx, aux)) (hs : go cx S a ci) (hl : rf_lk aux (ci : Int) = some k) (hv : rf_wr M (cx.2.2.1 (ci : Int) k) a k v = some M') (kk : gx cx d i (pc + 3) ls st (M', S) Q) : gx cx d i pc ls (v :: .ref a :: st) (M, S) Q := g_pf hf hs hl hv kk
theorem m_st {idx j n : Nat} {kd z : Int} {as rest : List Value} (hf : cx.1 i pc = some (.invokestatic idx, [(kd, n), (z, j)])) (hk : ¬ 10 ≤ kd) (hn : as.length = n) (hc : (rest.map fun v => v.category).sum ≤ 8) (hroom : 1 ≤ d.1 ∧ (cx.2.1 j).2.2.1 + 19 ≤ d.2 ∧ (lg_sl as).length ≤ (cx.2.1 j).2.2.1) (k : gx cx (d.1 - 1, d.2 - ((cx.2.1 j).2.2.1 + 19)) j 0 (lv_args 0 as) [] (M, S) (fun r h' => gx cx d i (pc + 3) ls (r.toList ++ rest) h' Q)) : gx cx d i pc ls (as.reverse ++ rest) (M, S) Q := by
  refine gx_call hf (j := j) (as := as) (rest := rest) ?_ hroom k
  subst hn
  have h1 : (as.reverse ++ rest).drop as.length = rest := by
    rw [← List.length_reverse]; exact List.drop_left
  have h2 : (as.reverse ++ rest).take as.length = as.reverse := by
    rw [← List.length_reverse]; exact List.take_left
  unfold rf_ex
  show (if 10 ≤ kd then _ else _) = _
  rw [if_neg hk]
  unfold rf_ca
  dsimp only
  rw [h1, if_pos ⟨by simp, hc⟩, h2, List.reverse_reverse]
  rfl
theorem m_ivo {idx a j n : Nat} {kd : Int} {tg : List (Int × Nat)} {as rest : List Value} (hf : cx.1 i pc = some (.invokevirtual idx, (kd, n) :: tg)) (hk : ¬ 10 ≤ kd) (hs : oo cx S a) (hl : rf_lk tg (-1) = some j) (hn : as.length = n) (hc : (rest.map fun v => v.category).sum ≤ 8) (hroom : 1 ≤ d.1 ∧ (cx.2.1 j).2.2.1 + 19 ≤ d.2 ∧ (lg_sl (.ref a :: as)).length ≤ (cx.2.1 j).2.2.1) (k : gx cx (d.1 - 1, d.2 - ((cx.2.1 j).2.2.1 + 19)) j 0 (lv_args 0 (.ref a :: as)) [] (M, S) (fun r h' => gx cx d i (pc + 3) ls (r.toList ++ rest) h' Q)) : gx cx d i pc ls (as.reverse ++ .ref a :: rest) (M, S) Q := by
  refine gx_call hf (j := j) (as := .ref a :: as) (rest := rest) ?_ hroom k
  subst hn
  have h1 : (as.reverse ++ .ref a :: rest).drop as.length = .ref a :: rest := by
    rw [← List.length_reverse]; exact List.drop_left
  have h2 : (as.reverse ++ .ref a :: rest).take as.length = as.reverse := by
    rw [← List.length_reverse]; exact List.take_left
  unfold rf_ex
  show (if 10 ≤ kd then _ else _) = _
  rw [if_neg hk]
  unfold rf_ca
  dsimp only
  rw [h1]
  dsimp only
  rw [hs.ob]
  dsimp only
  rw [hs.ky, hl]
  dsimp only
  rw [if_pos ⟨by simp, hc⟩, h2, List.reverse_reverse]
  rfl
end GROW2
/-! TEXTS: a word lies at a, its letters at b -/
def tx_w (fz : Bool) (S : gS) (M : rf_M) (a b n : Nat) : Prop := oo (cx0 fz) S a ∧ oa S b .byte n ∧ M.2.2 a 0 = some b ∧ M.1 a 1 = 0 ∧ n ≤ 100 ∧ ∀ k, k < n → ∃ c : Nat, c < 128 ∧ M.1 b k = Int32.ofNat c
section TX
variable {fz : Bool} {S : gS} {M : rf_M} {a b n : Nat}
theorem nI_int {k : Nat} (h : k ≤ 100000) : (nI k).toInt = (k : Int) := by
  unfold nI
  rw [Int32.toInt_ofNat']
  exact Int.bmod_eq_of_le (by have : Int32.size = 4294967296 := rfl; omega) (by have : Int32.size = 4294967296 := rfl; omega)
theorem tx_rd0 (h : tx_w fz S M a b n) : rf_rd M ((cx0 fz).2.2.1 (-1) 0) a 0 = .ref b := by
  show va_rf (M.2.2 a 0) = _
  rw [h.2.2.1]; rfl
theorem tx_rd1 (h : tx_w fz S M a b n) : rf_rd M ((cx0 fz).2.2.1 (-1) 1) a 1 = .int 0 := by
  show Value.int (M.1 a 1) = _
  rw [h.2.2.2.1]
theorem tx_coder (h : tx_w fz S M a b n) : gx (cx0 fz) (0, 0) 26 0 [(0, .ref a)] [] (M, S) (fun r h' => r = some (.int 0) ∧ h' = (M, S)) := by
  refine g7 (n := 3) rfl rfl rfl rfl ?_
  refine g_if rfl (fun c => absurd c (by decide)) (fun _ => ?_)
  refine g1 (n := 1) rfl rfl rfl rfl ?_
  refine m_gfo rfl h.1 rfl (tx_rd1 h) ?_
  refine g3 rfl rfl rfl ?_
  exact gx_ret (v := some (.int 0)) rfl rfl ⟨rfl, rfl⟩
theorem tx_len (h : tx_w fz S M a b n) : gx (cx0 fz) (1, 30) 25 0 [(0, .ref a)] [] (M, S) (fun r h' => r = some (.int (nI n)) ∧ h' = (M, S)) := by
  refine g1 (n := 1) rfl rfl rfl rfl ?_
  refine m_gfo rfl h.1 rfl (tx_rd0 h) ?_
  refine m_ln rfl h.2.1 ?_
  refine g1 (n := 1) rfl rfl rfl rfl ?_
  refine m_ivo (a := a) (as := []) (rest := [.int (nI n)]) rfl (by decide) h.1 rfl rfl (Nat.le_of_ble_eq_true rfl) ⟨Nat.le_of_ble_eq_true rfl, Nat.le_of_ble_eq_true rfl, Nat.le_of_ble_eq_true rfl⟩ ?_
  refine gx_room (gx_mono (tx_coder h) ?_) (Nat.zero_le _) (Nat.zero_le _)
  rintro r h' ⟨rfl, rfl⟩
  refine g0 rfl rfl rfl ?_
  have e : nI n >>> ((0 : Int32) &&& 31) = nI n := by
    have e0 : (0 : Int32) &&& 31 = 0 := by decide
    rw [e0]; exact Int32.shiftRight_zero
  rw [e]
  exact gx_ret rfl rfl ⟨rfl, rfl⟩
theorem tx_lat (h : tx_w fz S M a b n) : gx (cx0 fz) (0, 0) 28 0 [(0, .ref a)] [] (M, S) (fun r h' => r = some (.int 1) ∧ h' = (M, S)) := by
  refine g7 (n := 3) rfl rfl rfl rfl ?_
  refine g_if rfl (fun c => absurd c (by decide)) (fun _ => ?_)
  refine g1 (n := 1) rfl rfl rfl rfl ?_
  refine m_gfo rfl h.1 rfl (tx_rd1 h) ?_
  refine g_if rfl (fun c => absurd c (by decide)) (fun _ => ?_)
  refine g1 (n := 1) rfl rfl rfl rfl ?_
  refine g3 rfl rfl rfl ?_
  exact gx_ret (v := some (.int 1)) rfl rfl ⟨rfl, rfl⟩
theorem tx_pre {x y : Int32} {v : Value} (h1 : 0 ≤ x.toInt) (h2 : x.toInt < y.toInt) : gx (cx0 fz) (0, 0) 31 0 [(0, .int x), (1, .int y), (2, v)] [] (M, S) (fun r h' => r = some (.int x) ∧ h' = (M, S)) := by
  refine g1 (n := 1) rfl rfl rfl rfl ?_
  refine g_if rfl (fun c => ?_) (fun _ => ?_)
  · have c := (rf_cc_iff _ _ _).mp c
    have c : x.toInt < (0 : Int32).toInt := c
    rw [Int32.toInt_zero] at c
    omega
  refine g1 (n := 1) rfl rfl rfl rfl ?_
  refine g1 (n := 1) rfl rfl rfl rfl ?_
  refine g_ic rfl (fun _ => ?_) (fun c => absurd ((rf_cc_iff x y .lt).mpr h2) c)
  refine g1 (n := 1) rfl rfl rfl rfl ?_
  exact gx_ret rfl rfl ⟨rfl, rfl⟩
theorem tx_chk {x y : Int32} (h1 : 0 ≤ x.toInt) (h2 : x.toInt < y.toInt) : gx (cx0 fz) (1, 30) 30 0 [(0, .int x), (1, .int y)] [] (M, S) (fun r h' => r = none ∧ h' = (M, S)) := by
  refine g1 (n := 1) rfl rfl rfl rfl ?_
  refine g1 (n := 1) rfl rfl rfl rfl ?_
  cases fz
  · refine g7 (n := 3) rfl rfl rfl rfl ?_
    refine m_st (as := [.int x, .int y, .null]) (rest := []) rfl (by decide) rfl (Nat.le_of_ble_eq_true rfl) ⟨Nat.le_of_ble_eq_true rfl, Nat.le_of_ble_eq_true rfl, Nat.le_of_ble_eq_true rfl⟩ ?_
    refine gx_room (gx_mono (tx_pre h1 h2) ?_) (Nat.zero_le _) (Nat.zero_le _)
    rintro r h' ⟨rfl, rfl⟩
    refine g0 rfl rfl rfl ?_
    exact gx_ret rfl rfl ⟨rfl, rfl⟩
  · refine g7 (n := 3) rfl rfl rfl rfl ?_
    refine m_st (as := [.int x, .int y, .ref 0]) (rest := []) rfl (by decide) rfl (Nat.le_of_ble_eq_true rfl) ⟨Nat.le_of_ble_eq_true rfl, Nat.le_of_ble_eq_true rfl, Nat.le_of_ble_eq_true rfl⟩ ?_
    refine gx_room (gx_mono (tx_pre h1 h2) ?_) (Nat.zero_le _) (Nat.zero_le _)
    rintro r h' ⟨rfl, rfl⟩
    refine g0 rfl rfl rfl ?_
    exact gx_ret rfl rfl ⟨rfl, rfl⟩
theorem tx_chr : ∀ v ∈ List.range 128, (((Int32.ofNat v) &&& (Int16.ofInt 255).toInt32).toUInt32 % 65536).toInt32 = Int32.ofNat v ∧ narrow .char (.int (Int32.ofNat v)) = .int (Int32.ofNat v) := by decide +kernel
theorem tx_l1 {k : Nat} {x : Int32} (h : tx_w fz S M a b n) (hx : x.toInt = (k : Int)) (hk : k < n) : gx (cx0 fz) (2, 60) 29 0 [(0, .ref b), (1, .int x)] [] (M, S) (fun r h' => r = some (.int (M.1 b k)) ∧ h' = (M, S)) := by
  have hn := h.2.2.2.2.1
  refine g1 (n := 1) rfl rfl rfl rfl ?_
  refine g1 (n := 1) rfl rfl rfl rfl ?_
  refine m_ln rfl h.2.1 ?_
  refine m_st (as := [.int x, .int (nI n)]) (rest := []) rfl (by decide) rfl (Nat.le_of_ble_eq_true rfl) ⟨Nat.le_of_ble_eq_true rfl, Nat.le_of_ble_eq_true rfl, Nat.le_of_ble_eq_true rfl⟩ ?_
  refine gx_room (gx_mono (tx_chk (by omega) (by rw [nI_int (by omega)]; omega)) ?_) (Nat.le_of_ble_eq_true rfl) (Nat.le_of_ble_eq_true rfl)
  rintro r h' ⟨rfl, rfl⟩
  refine g1 (n := 1) rfl rfl rfl rfl ?_
  refine g1 (n := 1) rfl rfl rfl rfl ?_
  refine m_bl rfl h.2.1 hx hk ?_
  obtain ⟨c, hc, hv⟩ := h.2.2.2.2.2 k hk
  obtain ⟨e1, e2⟩ := tx_chr c (List.mem_range.mpr hc)
  rw [hv]
  refine g1 (n := 3) rfl rfl rfl rfl ?_
  refine g0 rfl rfl rfl ?_
  refine g0 rfl rfl rfl ?_
  rw [e1]
  exact gx_ret (v := some (.int (Int32.ofNat c))) rfl (by show Option.map _ (if narrow .char (.int (Int32.ofNat c)) = .int (Int32.ofNat c) then _ else _) = _; rw [if_pos e2]; rfl) ⟨rfl, rfl⟩
theorem tx_char {k : Nat} {x : Int32} (h : tx_w fz S M a b n) (hx : x.toInt = (k : Int)) (hk : k < n) : gx (cx0 fz) (3, 90) 27 0 [(0, .ref a), (1, .int x)] [] (M, S) (fun r h' => r = some (.int (M.1 b k)) ∧ h' = (M, S)) := by
  refine g1 (n := 1) rfl rfl rfl rfl ?_
  refine m_ivo (a := a) (as := []) (rest := []) rfl (by decide) h.1 rfl rfl (Nat.le_of_ble_eq_true rfl) ⟨Nat.le_of_ble_eq_true rfl, Nat.le_of_ble_eq_true rfl, Nat.le_of_ble_eq_true rfl⟩ ?_
  refine gx_room (gx_mono (tx_lat h) ?_) (Nat.zero_le _) (Nat.zero_le _)
  rintro r h' ⟨rfl, rfl⟩
  refine g_if rfl (fun c => absurd c (by decide)) (fun _ => ?_)
  refine g1 (n := 1) rfl rfl rfl rfl ?_
  refine m_gfo rfl h.1 rfl (tx_rd0 h) ?_
  refine g1 (n := 1) rfl rfl rfl rfl ?_
  refine m_st (as := [.ref b, .int x]) (rest := []) rfl (by decide) rfl (Nat.le_of_ble_eq_true rfl) ⟨Nat.le_of_ble_eq_true rfl, Nat.le_of_ble_eq_true rfl, Nat.le_of_ble_eq_true rfl⟩ ?_
  refine gx_room (gx_mono (tx_l1 h hx hk) ?_) (Nat.le_of_ble_eq_true rfl) (Nat.le_of_ble_eq_true rfl)
  rintro r h' ⟨rfl, rfl⟩
  obtain ⟨c, hc, hv⟩ := h.2.2.2.2.2 k hk
  obtain ⟨e1, e2⟩ := tx_chr c (List.mem_range.mpr hc)
  rw [hv]
  exact gx_ret (v := some (.int (Int32.ofNat c))) rfl (by show Option.map _ (if narrow .char (.int (Int32.ofNat c)) = .int (Int32.ofNat c) then _ else _) = _; rw [if_pos e2]; rfl) ⟨rfl, rfl⟩
end TX
/-! THE SCANNER: what it reads -/
def sp_l (x : Int32) : Bool := decide (97 ≤ x.toInt) && decide (x.toInt ≤ 122)
def sp_d (x : Int32) : Bool := decide (48 ≤ x.toInt) && decide (x.toInt ≤ 57)
def sp_s (x : Int32) : Bool := [61, 59, 40, 41, 123, 125, 60, 35, 43, 45, 42, 47, 37].elem x.toInt
def bI (c : Bool) : Int32 := if c then 1 else 0
def sp_end (p : Int32 → Bool) (b : Nat → Int32) (n : Nat) : Nat → Nat → Nat
  | 0, i => i
  | f + 1, i => if i < n ∧ p (b i) = true then sp_end p b n f (i + 1) else i
/-- where a row of such bytes ends -/
def sp_e (p : Int32 → Bool) (b : Nat → Int32) (n i : Nat) : Nat := sp_end p b n (n - i) i
theorem sp_e_yes {p : Int32 → Bool} {b : Nat → Int32} {n i : Nat} (h1 : i < n) (h2 : p (b i) = true) : sp_e p b n i = sp_e p b n (i + 1) := by
  unfold sp_e
  obtain ⟨f, hf⟩ : ∃ f, n - i = f + 1 := ⟨n - i - 1, by omega⟩
  rw [hf, show n - (i + 1) = f by omega]
  show (if i < n ∧ p (b i) = true then _ else _) = _
  rw [if_pos ⟨h1, h2⟩]
theorem sp_e_no {p : Int32 → Bool} {b : Nat → Int32} {n i : Nat} (h : ¬ (i < n ∧ p (b i) = true)) : sp_e p b n i = i := by
  unfold sp_e
  cases n - i with
  | zero => rfl
  | succ f =>
    show (if i < n ∧ p (b i) = true then _ else _) = _
    rw [if_neg h]
theorem sp_end_le {p : Int32 → Bool} {b : Nat → Int32} {n : Nat} : ∀ (f i : Nat), i ≤ n → i ≤ sp_end p b n f i ∧ sp_end p b n f i ≤ n
  | 0, i, h => ⟨Nat.le_refl _, h⟩
  | f + 1, i, h => by
    show i ≤ (if i < n ∧ p (b i) = true then sp_end p b n f (i + 1) else i) ∧ (if i < n ∧ p (b i) = true then sp_end p b n f (i + 1) else i) ≤ n
    split
    · rename_i hc
      have := sp_end_le (p := p) (b := b) f (i + 1) hc.1
      omega
    · omega
theorem sp_e_le {p : Int32 → Bool} {b : Nat → Int32} {n i : Nat} (h : i ≤ n) : i ≤ sp_e p b n i ∧ sp_e p b n i ≤ n := sp_end_le _ _ h
/-- do these letters stand there -/
def sp_wd (b : Nat → Int32) (i j : Nat) (w : List Nat) : Bool := decide (j - i = w.length) && (List.range w.length).all (fun t => decide (b (i + t) = Int32.ofNat (w.getD t 0)))
def sp_word (b : Nat → Int32) (i j : Nat) : Int32 := if sp_wd b i j [105, 102] then 10 else if sp_wd b i j [101, 108, 115, 101] then 11 else if sp_wd b i j [119, 104, 105, 108, 101] then 12 else if sp_wd b i j [114, 101, 116, 114, 121] then 13 else if sp_wd b i j [116, 104, 114, 111, 119] then 14 else if sp_wd b i j [101, 105, 116, 104, 101, 114] then 15 else if sp_wd b i j [111, 114] then 16 else if sp_wd b i j [116, 114, 121] then 17 else if sp_wd b i j [99, 97, 116, 99, 104] then 18 else if sp_wd b i j [97, 108, 119, 97, 121, 115] then 19 else 3
/-- the shapes, the references and the words that the scanner looks at -/
def sc_S (fz : Bool) (S : gS) : Prop := go (cx0 fz) S 170 3 ∧ ga (cx0 fz) S 171 .int 801 ∧ ga (cx0 fz) S 172 .int 801 ∧ ga (cx0 fz) S 173 .int 801 ∧ ga (cx0 fz) S 23 .int 800
def sc_w (fz : Bool) (S : gS) (M : rf_M) (a b : Nat) (w : List Nat) : Prop := tx_w fz S M a b w.length ∧ ∀ t, t < w.length → M.1 b t = Int32.ofNat (w.getD t 0)
def sc_M (fz : Bool) (S : gS) (M : rf_M) : Prop := (M.2.2 170 0 = some 171 ∧ M.2.2 170 1 = some 172 ∧ M.2.2 170 2 = some 173 ∧ M.2.2 170 4 = some 23) ∧ sc_w fz S M 2 3 [105, 102] ∧ sc_w fz S M 4 5 [101, 108, 115, 101] ∧ sc_w fz S M 6 7 [119, 104, 105, 108, 101] ∧ sc_w fz S M 8 9 [114, 101, 116, 114, 121] ∧ sc_w fz S M 10 11 [116, 104, 114, 111, 119] ∧ sc_w fz S M 12 13 [101, 105, 116, 104, 101, 114] ∧ sc_w fz S M 14 15 [111, 114] ∧ sc_w fz S M 16 17 [116, 114, 121] ∧ sc_w fz S M 18 19 [99, 97, 116, 99, 104] ∧ sc_w fz S M 20 21 [97, 108, 119, 97, 121, 115]
section SC
variable {fz : Bool} {S : gS} {M : rf_M}
theorem sc_sl {x : Int32} : gx (cx0 fz) (0, 0) 21 0 [(0, .int x)] [] (M, S) (fun r h' => r = some (.int (bI (sp_l x))) ∧ h' = (M, S)) := by
  refine g1 (n := 1) rfl rfl rfl rfl ?_
  refine g1 (n := 2) rfl rfl rfl rfl ?_
  refine g_ic rfl (fun c => ?_) (fun c => ?_)
  · have c : x.toInt < 97 := (rf_cc_iff x 97 .lt).mp c
    refine g1 (n := 1) rfl rfl rfl rfl ?_
    exact gx_ret rfl rfl ⟨by have e : sp_l x = false := by (unfold sp_l; simp; omega)
                             rw [e]; rfl, rfl⟩
  · have c : ¬ x.toInt < 97 := fun z => c ((rf_cc_iff x 97 .lt).mpr z)
    refine g1 (n := 1) rfl rfl rfl rfl ?_
    refine g1 (n := 2) rfl rfl rfl rfl ?_
    refine g_ic rfl (fun c2 => ?_) (fun c2 => ?_)
    · have c2 : (122 : Int) < x.toInt := (rf_cc_iff x 122 .gt).mp c2
      refine g1 (n := 1) rfl rfl rfl rfl ?_
      exact gx_ret rfl rfl ⟨by have e : sp_l x = false := by (unfold sp_l; simp; omega)
                               rw [e]; rfl, rfl⟩
    · have c2 : ¬ (122 : Int) < x.toInt := fun z => c2 ((rf_cc_iff x 122 .gt).mpr z)
      refine g1 (n := 1) rfl rfl rfl rfl ?_
      refine g3 rfl rfl rfl ?_
      exact gx_ret rfl rfl ⟨by have e : sp_l x = true := by (unfold sp_l; simp; omega)
                               rw [e]; rfl, rfl⟩
theorem sc_dg {x : Int32} : gx (cx0 fz) (0, 0) 32 0 [(0, .int x)] [] (M, S) (fun r h' => r = some (.int (bI (sp_d x))) ∧ h' = (M, S)) := by
  refine g1 (n := 1) rfl rfl rfl rfl ?_
  refine g1 (n := 2) rfl rfl rfl rfl ?_
  refine g_ic rfl (fun c => ?_) (fun c => ?_)
  · have c : x.toInt < 48 := (rf_cc_iff x 48 .lt).mp c
    refine g1 (n := 1) rfl rfl rfl rfl ?_
    exact gx_ret rfl rfl ⟨by have e : sp_d x = false := by (unfold sp_d; simp; omega)
                             rw [e]; rfl, rfl⟩
  · have c : ¬ x.toInt < 48 := fun z => c ((rf_cc_iff x 48 .lt).mpr z)
    refine g1 (n := 1) rfl rfl rfl rfl ?_
    refine g1 (n := 2) rfl rfl rfl rfl ?_
    refine g_ic rfl (fun c2 => ?_) (fun c2 => ?_)
    · have c2 : (57 : Int) < x.toInt := (rf_cc_iff x 57 .gt).mp c2
      refine g1 (n := 1) rfl rfl rfl rfl ?_
      exact gx_ret rfl rfl ⟨by have e : sp_d x = false := by (unfold sp_d; simp; omega)
                               rw [e]; rfl, rfl⟩
    · have c2 : ¬ (57 : Int) < x.toInt := fun z => c2 ((rf_cc_iff x 57 .gt).mpr z)
      refine g1 (n := 1) rfl rfl rfl rfl ?_
      refine g3 rfl rfl rfl ?_
      exact gx_ret rfl rfl ⟨by have e : sp_d x = true := by (unfold sp_d; simp; omega)
                               rw [e]; rfl, rfl⟩
/-- does the word stand between i and j -/
theorem sc_reads {a b i j : Nat} {w : List Nat} (hS : sc_S fz S) (hb : M.2.2 170 4 = some 23) (hw : sc_w fz S M a b w) (hj : M.1 170 6 = nI j) (hij : i ≤ j) (hj8 : j ≤ 800) : gx (cx0 fz) (4, 130) 24 0 [(0, .ref 170), (1, .int (nI i)), (2, .ref a)] [] (M, S) (fun r h' => r = some (.int (bI (sp_wd (M.1 23) i j w))) ∧ h' = (M, S)) := by
  have hn := hw.1.2.2.2.2.1
  have loop : ∀ (m k : Nat), w.length - k ≤ m → k ≤ w.length → j - i = w.length → (∀ t, t < k → M.1 23 (i + t) = Int32.ofNat (w.getD t 0)) → gx (cx0 fz) (4, 130) 24 17 [(3, .int (nI k)), (0, .ref 170), (1, .int (nI i)), (2, .ref a)] [] (M, S) (fun r h' => r = some (.int (bI (sp_wd (M.1 23) i j w))) ∧ h' = (M, S)) := by
    intro m
    induction m with
    | zero =>
      intro k h1 h2 h3 h4
      have hk : k = w.length := by omega
      subst hk
      refine g1 (n := 1) rfl rfl rfl rfl ?_
      refine g1 (n := 1) rfl rfl rfl rfl ?_
      refine m_ivo (a := a) (as := []) (rest := [.int (nI w.length)]) rfl (by decide) hw.1.1 rfl rfl (Nat.le_of_ble_eq_true rfl) ⟨Nat.le_of_ble_eq_true rfl, Nat.le_of_ble_eq_true rfl, Nat.le_of_ble_eq_true rfl⟩ ?_
      refine gx_room (gx_mono (tx_len hw.1) ?_) (Nat.le_of_ble_eq_true rfl) (Nat.le_of_ble_eq_true rfl)
      rintro r h' ⟨rfl, rfl⟩
      refine g_ic rfl (fun _ => ?_) (fun c => absurd ((rf_cc_iff _ _ .ge).mpr (Int.le_refl _)) c)
      refine g1 (n := 1) rfl rfl rfl rfl ?_
      refine gx_ret rfl rfl ⟨?_, rfl⟩
      have e : sp_wd (M.1 23) i j w = true := by
        unfold sp_wd
        simp only [Bool.and_eq_true, decide_eq_true_eq, List.all_eq_true, List.mem_range]
        exact ⟨h3, h4⟩
      rw [e]; rfl
    | succ m ih =>
      intro k h1 h2 h3 h4
      refine g1 (n := 1) rfl rfl rfl rfl ?_
      refine g1 (n := 1) rfl rfl rfl rfl ?_
      refine m_ivo (a := a) (as := []) (rest := [.int (nI k)]) rfl (by decide) hw.1.1 rfl rfl (Nat.le_of_ble_eq_true rfl) ⟨Nat.le_of_ble_eq_true rfl, Nat.le_of_ble_eq_true rfl, Nat.le_of_ble_eq_true rfl⟩ ?_
      refine gx_room (gx_mono (tx_len hw.1) ?_) (Nat.le_of_ble_eq_true rfl) (Nat.le_of_ble_eq_true rfl)
      rintro r h' ⟨rfl, rfl⟩
      refine g_ic rfl (fun c => ?_) (fun c => ?_)
      · have c : (nI w.length).toInt ≤ (nI k).toInt := (rf_cc_iff _ _ .ge).mp c
        rw [nI_int (by omega), nI_int (by omega)] at c
        have hk : k = w.length := by omega
        refine g1 (n := 1) rfl rfl rfl rfl ?_
        refine gx_ret rfl rfl ⟨?_, rfl⟩
        have e : sp_wd (M.1 23) i j w = true := by
          unfold sp_wd
          simp only [Bool.and_eq_true, decide_eq_true_eq, List.all_eq_true, List.mem_range]
          exact ⟨h3, fun t ht => h4 t (by omega)⟩
        rw [e]; rfl
      · have c : ¬ (nI w.length).toInt ≤ (nI k).toInt := fun z => c ((rf_cc_iff _ _ .ge).mpr z)
        rw [nI_int (by omega), nI_int (by omega)] at c
        have hk : k < w.length := by omega
        refine g1 (n := 1) rfl rfl rfl rfl ?_
        refine m_gf rfl hS.1 rfl (v := .ref 23) (by show va_rf (M.2.2 170 4) = _; rw [hb]; rfl) ?_
        refine g1 (n := 1) rfl rfl rfl rfl ?_
        refine g1 (n := 1) rfl rfl rfl rfl ?_
        refine g0 rfl rfl rfl ?_
        have hik : (nI i + nI k).toInt = ((i + k : Nat) : Int) := by
          rw [Int32.toInt_add, nI_int (by omega), nI_int (by omega)]
          exact Int.bmod_eq_of_le (by omega) (by omega)
        refine m_il rfl hS.2.2.2.2.oa hik (by omega) ?_
        refine g1 (n := 1) rfl rfl rfl rfl ?_
        refine g1 (n := 1) rfl rfl rfl rfl ?_
        refine m_ivo (a := a) (as := [.int (nI k)]) (rest := [.int (M.1 23 (i + k))]) rfl (by decide) hw.1.1 rfl rfl (Nat.le_of_ble_eq_true rfl) ⟨Nat.le_of_ble_eq_true rfl, Nat.le_of_ble_eq_true rfl, Nat.le_of_ble_eq_true rfl⟩ ?_
        refine gx_room (gx_mono (tx_char hw.1 (nI_int (by omega)) hk) ?_) (Nat.le_of_ble_eq_true rfl) (Nat.le_of_ble_eq_true rfl)
        rintro r h' ⟨rfl, rfl⟩
        rw [hw.2 k hk]
        refine g_ic rfl (fun c2 => ?_) (fun c2 => ?_)
        · have c2 : M.1 23 (i + k) = Int32.ofNat (w.getD k 0) := of_decide_eq_true c2
          refine g2 (n := 3) rfl rfl rfl rfl ?_
          refine g3 rfl rfl rfl ?_
          have e : nI k + Int32.ofInt 1 = nI (k + 1) := by
            refine Int32.toInt_inj.mp ?_
            rw [Int32.toInt_add, nI_int (by omega), nI_int (by omega), Int32.toInt_ofInt_of_le (by omega) (by omega)]
            exact Int.bmod_eq_of_le (by omega) (by omega)
          have e2 : rf_s1 [(3, Value.int (nI k)), (0, .ref 170), (1, .int (nI i)), (2, .ref a)] 3 (.int (nI k + Int32.ofInt 1)) = [(3, .int (nI (k + 1))), (0, .ref 170), (1, .int (nI i)), (2, .ref a)] := by rw [e]; rfl
          rw [e2]
          refine ih (k + 1) (by omega) (by omega) h3 (fun t ht => ?_)
          by_cases htk : t = k
          · rw [htk]; exact c2
          · exact h4 t (by omega)
        · have c2 : ¬ M.1 23 (i + k) = Int32.ofNat (w.getD k 0) := fun z => c2 (decide_eq_true z)
          refine g1 (n := 1) rfl rfl rfl rfl ?_
          refine gx_ret rfl rfl ⟨?_, rfl⟩
          have e : sp_wd (M.1 23) i j w = false := by
            unfold sp_wd
            rw [Bool.and_eq_false_iff]
            right
            rw [List.all_eq_false]
            exact ⟨k, List.mem_range.mpr hk, by simpa using c2⟩
          rw [e]; rfl
  refine g1 (n := 1) rfl rfl rfl rfl ?_
  refine m_gf rfl hS.1 rfl (v := .int (nI j)) (by show Value.int (M.1 170 6) = _; rw [hj]) ?_
  refine g1 (n := 1) rfl rfl rfl rfl ?_
  refine g0 rfl rfl rfl ?_
  have hji : (nI j - nI i).toInt = ((j - i : Nat) : Int) := by
    rw [Int32.toInt_sub, nI_int (by omega), nI_int (by omega)]
    rw [Int.bmod_eq_of_le (by omega) (by omega)]
    omega
  refine g1 (n := 1) rfl rfl rfl rfl ?_
  refine m_ivo (a := a) (as := []) (rest := [.int (nI j - nI i)]) rfl (by decide) hw.1.1 rfl rfl (Nat.le_of_ble_eq_true rfl) ⟨Nat.le_of_ble_eq_true rfl, Nat.le_of_ble_eq_true rfl, Nat.le_of_ble_eq_true rfl⟩ ?_
  refine gx_room (gx_mono (tx_len hw.1) ?_) (Nat.le_of_ble_eq_true rfl) (Nat.le_of_ble_eq_true rfl)
  rintro r h' ⟨rfl, rfl⟩
  refine g_ic rfl (fun c => ?_) (fun c => ?_)
  · have c : (nI j - nI i).toInt = (nI w.length).toInt := (rf_cc_iff _ _ .eq).mp c
    rw [hji, nI_int (by omega)] at c
    refine g1 (n := 1) rfl rfl rfl rfl ?_
    refine g2 (n := 1) rfl rfl rfl rfl ?_
    exact loop w.length 0 (by omega) (by omega) (by omega) (fun t ht => absurd ht (Nat.not_lt_zero _))
  · have c : ¬ (nI j - nI i).toInt = (nI w.length).toInt := fun z => c ((rf_cc_iff _ _ .eq).mpr z)
    rw [hji, nI_int (by omega)] at c
    refine g1 (n := 1) rfl rfl rfl rfl ?_
    refine gx_ret rfl rfl ⟨?_, rfl⟩
    have e : sp_wd (M.1 23) i j w = false := by
      unfold sp_wd
      rw [Bool.and_eq_false_iff]
      left
      exact decide_eq_false (by omega)
    rw [e]; rfl
end SC
/-! the scanner's methods -/
theorem rf_wi_wi (M : rf_M) (a k : Nat) (x y : Int32) : rf_wi (rf_wi M a k x) a k y = rf_wi M a k y := by
  unfold rf_wi
  refine Prod.ext ?_ rfl
  funext a' k'
  dsimp only
  unfold va_up
  by_cases h : a' = a
  · by_cases h2 : k' = k
    · simp [h, h2]
    · simp [h, h2]
  · simp [h]
theorem rf_wi_id {M : rf_M} {a k : Nat} {x : Int32} (h : M.1 a k = x) : rf_wi M a k x = M := by
  unfold rf_wi
  refine Prod.ext ?_ rfl
  funext a' k'
  dsimp only
  unfold va_up
  by_cases h1 : a' = a
  · by_cases h2 : k' = k
    · subst h1 h2; simp [h]
    · simp [h1, h2]
  · simp [h1]
section M2
variable {cx : rf_C} {d : Nat × Nat} {i pc : Nat} {ls : rf_L} {st : List Value} {Q : Option Value → rf_H → Prop} {M : rf_M} {S : gS} {aux : List (Int × Nat)}
theorem m_iv {idx a ci j n : Nat} {kd : Int} {tg : List (Int × Nat)} {as rest : List Value} (hf : cx.1 i pc = some (.invokevirtual idx, (kd, n) :: tg)) (hk : ¬ 10 ≤ kd) (hs : go cx S a ci) (hl : rf_lk tg (ci : Int) = some j) (hn : as.length = n) (hc : (rest.map fun v => v.category).sum ≤ 8) (hroom : 1 ≤ d.1 ∧ (cx.2.1 j).2.2.1 + 19 ≤ d.2 ∧ (lg_sl (.ref a :: as)).length ≤ (cx.2.1 j).2.2.1) (k : gx cx (d.1 - 1, d.2 - ((cx.2.1 j).2.2.1 + 19)) j 0 (lv_args 0 (.ref a :: as)) [] (M, S) (fun r h' => gx cx d i (pc + 3) ls (r.toList ++ rest) h' Q)) : gx cx d i pc ls (as.reverse ++ .ref a :: rest) (M, S) Q := by
  refine gx_call hf (j := j) (as := .ref a :: as) (rest := rest) ?_ hroom k
  subst hn
  have h1 : (as.reverse ++ .ref a :: rest).drop as.length = .ref a :: rest := by
    rw [← List.length_reverse]; exact List.drop_left
  have h2 : (as.reverse ++ .ref a :: rest).take as.length = as.reverse := by
    rw [← List.length_reverse]; exact List.take_left
  unfold rf_ex
  show (if 10 ≤ kd then _ else _) = _
  rw [if_neg hk]
  unfold rf_ca
  dsimp only
  rw [h1]
  dsimp only
  rw [hs.ob]
  dsimp only
  rw [hs.ky, hl]
  dsimp only
  rw [if_pos ⟨by simp, hc⟩, h2, List.reverse_reverse]
  rfl
end M2
section SC2
variable {fz : Bool} {S : gS} {M : rf_M}
theorem sc_w_of {M M' : rf_M} {a b : Nat} {w : List Nat} (h1 : ∀ c k, c < 22 → M'.1 c k = M.1 c k) (h2 : M'.2.2 a 0 = M.2.2 a 0) (hab : a < 22 ∧ b < 22) (h : sc_w fz S M a b w) : sc_w fz S M' a b w := by
  obtain ⟨⟨t1, t2, t3, t4, t5, t6⟩, t7⟩ := h
  refine ⟨⟨t1, t2, h2.trans t3, (h1 a 1 hab.1).trans t4, t5, fun k hk => ?_⟩, fun t ht => (h1 b t hab.2).trans (t7 t ht)⟩
  obtain ⟨c, c1, c2⟩ := t6 k hk
  exact ⟨c, c1, (h1 b k hab.2).trans c2⟩
theorem sc_M_of {M M' : rf_M} (h1 : ∀ c k, c < 22 → M'.1 c k = M.1 c k) (h2 : ∀ c k, M'.2.2 c k = M.2.2 c k) (h : sc_M fz S M) : sc_M fz S M' := by
  obtain ⟨⟨r1, r2, r3, r4⟩, w1, w2, w3, w4, w5, w6, w7, w8, w9, w10⟩ := h
  exact ⟨⟨(h2 _ _).trans r1, (h2 _ _).trans r2, (h2 _ _).trans r3, (h2 _ _).trans r4⟩, sc_w_of h1 (h2 _ _) ⟨by omega, by omega⟩ w1, sc_w_of h1 (h2 _ _) ⟨by omega, by omega⟩ w2, sc_w_of h1 (h2 _ _) ⟨by omega, by omega⟩ w3, sc_w_of h1 (h2 _ _) ⟨by omega, by omega⟩ w4, sc_w_of h1 (h2 _ _) ⟨by omega, by omega⟩ w5, sc_w_of h1 (h2 _ _) ⟨by omega, by omega⟩ w6, sc_w_of h1 (h2 _ _) ⟨by omega, by omega⟩ w7, sc_w_of h1 (h2 _ _) ⟨by omega, by omega⟩ w8, sc_w_of h1 (h2 _ _) ⟨by omega, by omega⟩ w9, sc_w_of h1 (h2 _ _) ⟨by omega, by omega⟩ w10⟩
theorem sc_M_wi {a k : Nat} {x : Int32} (ha : 22 ≤ a) (h : sc_M fz S M) : sc_M fz S (rf_wi M a k x) := by
  refine sc_M_of (M := M) (M' := rf_wi M a k x) (fun c k' hc => ?_) (fun _ _ => rfl) h
  show va_up M.1 a (va_up (M.1 a) k x) c k' = M.1 c k'
  exact rf_up2 M.1 x (Or.inl (by omega))
theorem bI_no {c : Bool} (h : rf_cc (bI c) 0 .eq = true) : c = false := by
  cases c
  · rfl
  · exact absurd h (by decide)
theorem bI_yes {c : Bool} (h : ¬ rf_cc (bI c) 0 .eq = true) : c = true := by
  cases c
  · exact absurd (by decide) h
  · rfl
theorem sc_word {i j : Nat} (hS : sc_S fz S) (hM : sc_M fz S M) (hj : M.1 170 6 = nI j) (hij : i ≤ j) (hj8 : j ≤ 800) : gx (cx0 fz) (5, 160) 23 0 [(0, .ref 170), (1, .int (nI i))] [] (M, S) (fun r h' => r = some (.int (sp_word (M.1 23) i j)) ∧ h' = (M, S)) := by
  obtain ⟨⟨r1, r2, r3, r4⟩, w1, w2, w3, w4, w5, w6, w7, w8, w9, w10⟩ := hM
  unfold sp_word
  refine g1 (n := 1) rfl rfl rfl rfl ?_
  refine g1 (n := 1) rfl rfl rfl rfl ?_
  refine g7 (n := 2) rfl rfl rfl rfl ?_
  refine m_iv (a := 170) (as := [.int (nI i), .ref 2]) (rest := []) rfl (by decide) hS.1 rfl rfl (Nat.le_of_ble_eq_true rfl) ⟨Nat.le_of_ble_eq_true rfl, Nat.le_of_ble_eq_true rfl, Nat.le_of_ble_eq_true rfl⟩ ?_
  refine gx_room (gx_mono (sc_reads hS r4 w1 hj hij hj8) ?_) (Nat.le_of_ble_eq_true rfl) (Nat.le_of_ble_eq_true rfl)
  rintro r h' ⟨rfl, rfl⟩
  refine g_if rfl (fun c => ?_) (fun c => ?_)
  rotate_left
  · rw [bI_yes c]
    refine g1 (n := 2) rfl rfl rfl rfl ?_
    exact gx_ret rfl rfl ⟨rfl, rfl⟩
  rw [bI_no c]
  clear c
  refine g1 (n := 1) rfl rfl rfl rfl ?_
  refine g1 (n := 1) rfl rfl rfl rfl ?_
  refine g7 (n := 2) rfl rfl rfl rfl ?_
  refine m_iv (a := 170) (as := [.int (nI i), .ref 4]) (rest := []) rfl (by decide) hS.1 rfl rfl (Nat.le_of_ble_eq_true rfl) ⟨Nat.le_of_ble_eq_true rfl, Nat.le_of_ble_eq_true rfl, Nat.le_of_ble_eq_true rfl⟩ ?_
  refine gx_room (gx_mono (sc_reads hS r4 w2 hj hij hj8) ?_) (Nat.le_of_ble_eq_true rfl) (Nat.le_of_ble_eq_true rfl)
  rintro r h' ⟨rfl, rfl⟩
  refine g_if rfl (fun c => ?_) (fun c => ?_)
  rotate_left
  · rw [bI_yes c]
    refine g1 (n := 2) rfl rfl rfl rfl ?_
    exact gx_ret rfl rfl ⟨rfl, rfl⟩
  rw [bI_no c]
  clear c
  refine g1 (n := 1) rfl rfl rfl rfl ?_
  refine g1 (n := 1) rfl rfl rfl rfl ?_
  refine g7 (n := 2) rfl rfl rfl rfl ?_
  refine m_iv (a := 170) (as := [.int (nI i), .ref 6]) (rest := []) rfl (by decide) hS.1 rfl rfl (Nat.le_of_ble_eq_true rfl) ⟨Nat.le_of_ble_eq_true rfl, Nat.le_of_ble_eq_true rfl, Nat.le_of_ble_eq_true rfl⟩ ?_
  refine gx_room (gx_mono (sc_reads hS r4 w3 hj hij hj8) ?_) (Nat.le_of_ble_eq_true rfl) (Nat.le_of_ble_eq_true rfl)
  rintro r h' ⟨rfl, rfl⟩
  refine g_if rfl (fun c => ?_) (fun c => ?_)
  rotate_left
  · rw [bI_yes c]
    refine g1 (n := 2) rfl rfl rfl rfl ?_
    exact gx_ret rfl rfl ⟨rfl, rfl⟩
  rw [bI_no c]
  clear c
  refine g1 (n := 1) rfl rfl rfl rfl ?_
  refine g1 (n := 1) rfl rfl rfl rfl ?_
  refine g7 (n := 2) rfl rfl rfl rfl ?_
  refine m_iv (a := 170) (as := [.int (nI i), .ref 8]) (rest := []) rfl (by decide) hS.1 rfl rfl (Nat.le_of_ble_eq_true rfl) ⟨Nat.le_of_ble_eq_true rfl, Nat.le_of_ble_eq_true rfl, Nat.le_of_ble_eq_true rfl⟩ ?_
  refine gx_room (gx_mono (sc_reads hS r4 w4 hj hij hj8) ?_) (Nat.le_of_ble_eq_true rfl) (Nat.le_of_ble_eq_true rfl)
  rintro r h' ⟨rfl, rfl⟩
  refine g_if rfl (fun c => ?_) (fun c => ?_)
  rotate_left
  · rw [bI_yes c]
    refine g1 (n := 2) rfl rfl rfl rfl ?_
    exact gx_ret rfl rfl ⟨rfl, rfl⟩
  rw [bI_no c]
  clear c
  refine g1 (n := 1) rfl rfl rfl rfl ?_
  refine g1 (n := 1) rfl rfl rfl rfl ?_
  refine g7 (n := 2) rfl rfl rfl rfl ?_
  refine m_iv (a := 170) (as := [.int (nI i), .ref 10]) (rest := []) rfl (by decide) hS.1 rfl rfl (Nat.le_of_ble_eq_true rfl) ⟨Nat.le_of_ble_eq_true rfl, Nat.le_of_ble_eq_true rfl, Nat.le_of_ble_eq_true rfl⟩ ?_
  refine gx_room (gx_mono (sc_reads hS r4 w5 hj hij hj8) ?_) (Nat.le_of_ble_eq_true rfl) (Nat.le_of_ble_eq_true rfl)
  rintro r h' ⟨rfl, rfl⟩
  refine g_if rfl (fun c => ?_) (fun c => ?_)
  rotate_left
  · rw [bI_yes c]
    refine g1 (n := 2) rfl rfl rfl rfl ?_
    exact gx_ret rfl rfl ⟨rfl, rfl⟩
  rw [bI_no c]
  clear c
  refine g1 (n := 1) rfl rfl rfl rfl ?_
  refine g1 (n := 1) rfl rfl rfl rfl ?_
  refine g7 (n := 2) rfl rfl rfl rfl ?_
  refine m_iv (a := 170) (as := [.int (nI i), .ref 12]) (rest := []) rfl (by decide) hS.1 rfl rfl (Nat.le_of_ble_eq_true rfl) ⟨Nat.le_of_ble_eq_true rfl, Nat.le_of_ble_eq_true rfl, Nat.le_of_ble_eq_true rfl⟩ ?_
  refine gx_room (gx_mono (sc_reads hS r4 w6 hj hij hj8) ?_) (Nat.le_of_ble_eq_true rfl) (Nat.le_of_ble_eq_true rfl)
  rintro r h' ⟨rfl, rfl⟩
  refine g_if rfl (fun c => ?_) (fun c => ?_)
  rotate_left
  · rw [bI_yes c]
    refine g1 (n := 2) rfl rfl rfl rfl ?_
    exact gx_ret rfl rfl ⟨rfl, rfl⟩
  rw [bI_no c]
  clear c
  refine g1 (n := 1) rfl rfl rfl rfl ?_
  refine g1 (n := 1) rfl rfl rfl rfl ?_
  refine g7 (n := 2) rfl rfl rfl rfl ?_
  refine m_iv (a := 170) (as := [.int (nI i), .ref 14]) (rest := []) rfl (by decide) hS.1 rfl rfl (Nat.le_of_ble_eq_true rfl) ⟨Nat.le_of_ble_eq_true rfl, Nat.le_of_ble_eq_true rfl, Nat.le_of_ble_eq_true rfl⟩ ?_
  refine gx_room (gx_mono (sc_reads hS r4 w7 hj hij hj8) ?_) (Nat.le_of_ble_eq_true rfl) (Nat.le_of_ble_eq_true rfl)
  rintro r h' ⟨rfl, rfl⟩
  refine g_if rfl (fun c => ?_) (fun c => ?_)
  rotate_left
  · rw [bI_yes c]
    refine g1 (n := 2) rfl rfl rfl rfl ?_
    exact gx_ret rfl rfl ⟨rfl, rfl⟩
  rw [bI_no c]
  clear c
  refine g1 (n := 1) rfl rfl rfl rfl ?_
  refine g1 (n := 1) rfl rfl rfl rfl ?_
  refine g7 (n := 2) rfl rfl rfl rfl ?_
  refine m_iv (a := 170) (as := [.int (nI i), .ref 16]) (rest := []) rfl (by decide) hS.1 rfl rfl (Nat.le_of_ble_eq_true rfl) ⟨Nat.le_of_ble_eq_true rfl, Nat.le_of_ble_eq_true rfl, Nat.le_of_ble_eq_true rfl⟩ ?_
  refine gx_room (gx_mono (sc_reads hS r4 w8 hj hij hj8) ?_) (Nat.le_of_ble_eq_true rfl) (Nat.le_of_ble_eq_true rfl)
  rintro r h' ⟨rfl, rfl⟩
  refine g_if rfl (fun c => ?_) (fun c => ?_)
  rotate_left
  · rw [bI_yes c]
    refine g1 (n := 2) rfl rfl rfl rfl ?_
    exact gx_ret rfl rfl ⟨rfl, rfl⟩
  rw [bI_no c]
  clear c
  refine g1 (n := 1) rfl rfl rfl rfl ?_
  refine g1 (n := 1) rfl rfl rfl rfl ?_
  refine g7 (n := 2) rfl rfl rfl rfl ?_
  refine m_iv (a := 170) (as := [.int (nI i), .ref 18]) (rest := []) rfl (by decide) hS.1 rfl rfl (Nat.le_of_ble_eq_true rfl) ⟨Nat.le_of_ble_eq_true rfl, Nat.le_of_ble_eq_true rfl, Nat.le_of_ble_eq_true rfl⟩ ?_
  refine gx_room (gx_mono (sc_reads hS r4 w9 hj hij hj8) ?_) (Nat.le_of_ble_eq_true rfl) (Nat.le_of_ble_eq_true rfl)
  rintro r h' ⟨rfl, rfl⟩
  refine g_if rfl (fun c => ?_) (fun c => ?_)
  rotate_left
  · rw [bI_yes c]
    refine g1 (n := 2) rfl rfl rfl rfl ?_
    exact gx_ret rfl rfl ⟨rfl, rfl⟩
  rw [bI_no c]
  clear c
  refine g1 (n := 1) rfl rfl rfl rfl ?_
  refine g1 (n := 1) rfl rfl rfl rfl ?_
  refine g7 (n := 2) rfl rfl rfl rfl ?_
  refine m_iv (a := 170) (as := [.int (nI i), .ref 20]) (rest := []) rfl (by decide) hS.1 rfl rfl (Nat.le_of_ble_eq_true rfl) ⟨Nat.le_of_ble_eq_true rfl, Nat.le_of_ble_eq_true rfl, Nat.le_of_ble_eq_true rfl⟩ ?_
  refine gx_room (gx_mono (sc_reads hS r4 w10 hj hij hj8) ?_) (Nat.le_of_ble_eq_true rfl) (Nat.le_of_ble_eq_true rfl)
  rintro r h' ⟨rfl, rfl⟩
  refine g_if rfl (fun c => ?_) (fun c => ?_)
  rotate_left
  · rw [bI_yes c]
    refine g1 (n := 2) rfl rfl rfl rfl ?_
    refine g3 rfl rfl rfl ?_
    exact gx_ret rfl rfl ⟨rfl, rfl⟩
  rw [bI_no c]
  clear c
  refine g1 (n := 1) rfl rfl rfl rfl ?_
  exact gx_ret rfl rfl ⟨rfl, rfl⟩
theorem sc_sym {x : Int32} : gx (cx0 fz) (0, 0) 34 0 [(0, .int x)] [] (M, S) (fun r h' => r = some (.int (bI (sp_s x))) ∧ h' = (M, S)) := by
  refine g1 (n := 1) rfl rfl rfl rfl ?_
  refine g3 (pc' := if sp_s x then 116 else 118) (st' := []) rfl rfl ?_ ?_
  · show some (rf_sw [(35, 116), (37, 116), (40, 116), (41, 116), (42, 116), (43, 116), (45, 116), (47, 116), (59, 116), (60, 116), (61, 116), (123, 116), (125, 116)] 118 x.toInt, ([] : List Value)) = _
    unfold sp_s
    simp only [rf_sw]
    by_cases h35 : (35 : Int) = x.toInt
    · rw [if_pos h35, ← h35]; rfl
    rw [if_neg h35]
    by_cases h37 : (37 : Int) = x.toInt
    · rw [if_pos h37, ← h37]; rfl
    rw [if_neg h37]
    by_cases h40 : (40 : Int) = x.toInt
    · rw [if_pos h40, ← h40]; rfl
    rw [if_neg h40]
    by_cases h41 : (41 : Int) = x.toInt
    · rw [if_pos h41, ← h41]; rfl
    rw [if_neg h41]
    by_cases h42 : (42 : Int) = x.toInt
    · rw [if_pos h42, ← h42]; rfl
    rw [if_neg h42]
    by_cases h43 : (43 : Int) = x.toInt
    · rw [if_pos h43, ← h43]; rfl
    rw [if_neg h43]
    by_cases h45 : (45 : Int) = x.toInt
    · rw [if_pos h45, ← h45]; rfl
    rw [if_neg h45]
    by_cases h47 : (47 : Int) = x.toInt
    · rw [if_pos h47, ← h47]; rfl
    rw [if_neg h47]
    by_cases h59 : (59 : Int) = x.toInt
    · rw [if_pos h59, ← h59]; rfl
    rw [if_neg h59]
    by_cases h60 : (60 : Int) = x.toInt
    · rw [if_pos h60, ← h60]; rfl
    rw [if_neg h60]
    by_cases h61 : (61 : Int) = x.toInt
    · rw [if_pos h61, ← h61]; rfl
    rw [if_neg h61]
    by_cases h123 : (123 : Int) = x.toInt
    · rw [if_pos h123, ← h123]; rfl
    rw [if_neg h123]
    by_cases h125 : (125 : Int) = x.toInt
    · rw [if_pos h125, ← h125]; rfl
    rw [if_neg h125]
    have e : [61, 59, 40, 41, 123, 125, 60, 35, 43, 45, 42, 47, 37].elem x.toInt = false := by
      rw [Bool.eq_false_iff]
      intro hh
      have := List.elem_iff.mp hh
      simp only [List.mem_cons, List.not_mem_nil, or_false] at this
      omega
    rw [e]
    rfl
  · cases hc : sp_s x
    · refine g1 (n := 1) rfl rfl rfl rfl ?_
      exact gx_ret rfl rfl ⟨rfl, rfl⟩
    · refine g1 (n := 1) rfl rfl rfl rfl ?_
      exact gx_ret rfl rfl ⟨rfl, rfl⟩
end SC2
/-! rows of letters, rows of digits -/
def sp_val (b : Nat → Int32) (i : Nat) : Nat → Int32
  | 0 => 0
  | k + 1 => sp_val b i k * 10 + (b (i + k) - 48)
theorem nI_suc {k : Nat} (h : k ≤ 1000) : nI k + Int32.ofInt 1 = nI (k + 1) := by
  refine Int32.toInt_inj.mp ?_
  rw [Int32.toInt_add, nI_int (by omega), nI_int (by omega), Int32.toInt_ofInt_of_le (by omega) (by omega)]
  exact Int.bmod_eq_of_le (by omega) (by omega)
theorem nI_sub {i j : Nat} (h : i ≤ j) (hj : j ≤ 1000) : (nI j - nI i).toInt = ((j - i : Nat) : Int) := by
  rw [Int32.toInt_sub, nI_int (by omega), nI_int (by omega)]
  rw [Int.bmod_eq_of_le (by omega) (by omega)]
  omega
/-- what the scanner's own slots say: next, length, last -/
def sc_at (M : rf_M) (i n l : Nat) : Prop := M.1 170 6 = nI i ∧ M.1 170 5 = nI n ∧ M.1 170 3 = nI l
def sc_let (M : rf_M) (i n l : Nat) : rf_M := if sp_e sp_l (M.1 23) n i - i = 1 then rf_wi (rf_wi (rf_wi M 170 6 (nI (sp_e sp_l (M.1 23) n i))) 171 l 1) 173 l (M.1 23 i - 97) else rf_wi (rf_wi M 170 6 (nI (sp_e sp_l (M.1 23) n i))) 171 l (sp_word (M.1 23) i (sp_e sp_l (M.1 23) n i))
def sc_dig (M : rf_M) (i n l : Nat) : rf_M := rf_wi (rf_wi (rf_wi M 170 6 (nI (sp_e sp_d (M.1 23) n i))) 171 l (if 9 < sp_e sp_d (M.1 23) n i - i then 3 else 2)) 173 l (sp_val (M.1 23) i (min (sp_e sp_d (M.1 23) n i - i) 9))
section SC3
variable {fz : Bool} {S : gS} {M : rf_M}
theorem sc_letters {i n l : Nat} (hS : sc_S fz S) (hM : sc_M fz S M) (hat : sc_at M i n l) (hin : i ≤ n) (hn : n ≤ 800) (hl : l ≤ 800) : gx (cx0 fz) (6, 190) 22 0 [(0, .ref 170)] [] (M, S) (fun r h' => r = none ∧ h' = (sc_let M i n l, S)) := by
  obtain ⟨a1, a2, a3⟩ := hat
  have r0 : M.2.2 170 0 = some 171 := hM.1.1
  have r2 : M.2.2 170 2 = some 173 := hM.1.2.2.1
  have r4 : M.2.2 170 4 = some 23 := hM.1.2.2.2
  have loop : ∀ (m k : Nat), n - k ≤ m → i ≤ k → k ≤ n → sp_e sp_l (M.1 23) n k = sp_e sp_l (M.1 23) n i → gx (cx0 fz) (6, 190) 22 5 [(1, .int (nI i)), (0, .ref 170)] [] (rf_wi M 170 6 (nI k), S) (fun r h' => r = none ∧ h' = (sc_let M i n l, S)) := by
    -- behind the loop
    have after : ∀ k, i ≤ k → k ≤ n → k = sp_e sp_l (M.1 23) n i → gx (cx0 fz) (6, 190) 22 44 [(1, .int (nI i)), (0, .ref 170)] [] (rf_wi M 170 6 (nI k), S) (fun r h' => r = none ∧ h' = (sc_let M i n l, S)) := by
      intro k h1 h2 h3
      refine g1 (n := 1) rfl rfl rfl rfl ?_
      refine m_gf rfl hS.1 rfl (v := .int (nI k)) rfl ?_
      refine g1 (n := 1) rfl rfl rfl rfl ?_
      refine g0 rfl rfl rfl ?_
      refine g1 (n := 1) rfl rfl rfl rfl ?_
      refine g_ic rfl (fun c => ?_) (fun c => ?_)
      · have c : ¬ (nI k - nI i).toInt = 1 := (rf_cc_iff _ _ .ne).mp c
        rw [nI_sub h1 (by omega)] at c
        refine g1 (n := 1) rfl rfl rfl rfl ?_
        refine m_gf rfl hS.1 rfl (v := .ref 171) (by show va_rf (M.2.2 170 0) = _; rw [r0]; rfl) ?_
        refine g1 (n := 1) rfl rfl rfl rfl ?_
        refine m_gf rfl hS.1 rfl (v := .int (nI l)) (by show Value.int (M.1 170 3) = _; rw [a3]) ?_
        refine g1 (n := 1) rfl rfl rfl rfl ?_
        refine g1 (n := 1) rfl rfl rfl rfl ?_
        refine m_iv (a := 170) (as := [.int (nI i)]) (rest := [.int (nI l), .ref 171]) rfl (by decide) hS.1 rfl rfl (Nat.le_of_ble_eq_true rfl) ⟨Nat.le_of_ble_eq_true rfl, Nat.le_of_ble_eq_true rfl, Nat.le_of_ble_eq_true rfl⟩ ?_
        refine gx_room (gx_mono (sc_word (M := rf_wi M 170 6 (nI k)) hS (sc_M_wi (by omega) hM) (j := k) rfl h1 (by omega)) ?_) (Nat.le_of_ble_eq_true rfl) (Nat.le_of_ble_eq_true rfl)
        rintro r h' ⟨rfl, rfl⟩
        refine m_is rfl hS.2.1 (nI_int (by omega)) (by omega) ?_
        refine gx_ret rfl rfl ⟨rfl, ?_⟩
        unfold sc_let
        rw [← h3, if_neg (by omega)]
        rfl
      · have c : (nI k - nI i).toInt = 1 := Classical.byContradiction fun z => c ((rf_cc_iff _ _ .ne).mpr z)
        rw [nI_sub h1 (by omega)] at c
        refine g1 (n := 1) rfl rfl rfl rfl ?_
        refine m_gf rfl hS.1 rfl (v := .ref 171) (by show va_rf (M.2.2 170 0) = _; rw [r0]; rfl) ?_
        refine g1 (n := 1) rfl rfl rfl rfl ?_
        refine m_gf rfl hS.1 rfl (v := .int (nI l)) (by show Value.int (M.1 170 3) = _; rw [a3]) ?_
        refine g1 (n := 1) rfl rfl rfl rfl ?_
        refine m_is rfl hS.2.1 (nI_int (by omega)) (by omega) ?_
        refine g1 (n := 1) rfl rfl rfl rfl ?_
        refine m_gf rfl hS.1 rfl (v := .ref 173) (by show va_rf (M.2.2 170 2) = _; rw [r2]; rfl) ?_
        refine g1 (n := 1) rfl rfl rfl rfl ?_
        refine m_gf rfl hS.1 rfl (v := .int (nI l)) (by show Value.int (M.1 170 3) = _; rw [a3]) ?_
        refine g1 (n := 1) rfl rfl rfl rfl ?_
        refine m_gf rfl hS.1 rfl (v := .ref 23) (by show va_rf (M.2.2 170 4) = _; rw [r4]; rfl) ?_
        refine g1 (n := 1) rfl rfl rfl rfl ?_
        refine m_il rfl hS.2.2.2.2.oa (nI_int (by omega)) (by omega) ?_
        refine g1 (n := 2) rfl rfl rfl rfl ?_
        refine g0 rfl rfl rfl ?_
        refine m_is rfl hS.2.2.2.1 (nI_int (by omega)) (by omega) ?_
        refine g3 rfl rfl rfl ?_
        refine gx_ret rfl rfl ⟨rfl, ?_⟩
        unfold sc_let
        rw [← h3, if_pos (by omega)]
        rfl
    intro m
    induction m with
    | zero =>
      intro k h0 h1 h2 h3
      have hk : k = n := by omega
      refine g1 (n := 1) rfl rfl rfl rfl ?_
      refine m_gf rfl hS.1 rfl (v := .int (nI k)) rfl ?_
      refine g1 (n := 1) rfl rfl rfl rfl ?_
      refine m_gf rfl hS.1 rfl (v := .int (nI n)) (by show Value.int (M.1 170 5) = _; rw [a2]) ?_
      refine g_ic rfl (fun _ => ?_) (fun c => absurd ((rf_cc_iff _ _ .ge).mpr (by rw [hk]; exact Int.le_refl _)) c)
      exact after k h1 h2 (by rw [← h3]; exact (sp_e_no (by omega)).symm)
    | succ m ih =>
      intro k h0 h1 h2 h3
      refine g1 (n := 1) rfl rfl rfl rfl ?_
      refine m_gf rfl hS.1 rfl (v := .int (nI k)) rfl ?_
      refine g1 (n := 1) rfl rfl rfl rfl ?_
      refine m_gf rfl hS.1 rfl (v := .int (nI n)) (by show Value.int (M.1 170 5) = _; rw [a2]) ?_
      refine g_ic rfl (fun c => ?_) (fun c => ?_)
      · have c : (nI n).toInt ≤ (nI k).toInt := (rf_cc_iff _ _ .ge).mp c
        rw [nI_int (by omega), nI_int (by omega)] at c
        exact after k h1 h2 (by rw [← h3]; exact (sp_e_no (by omega)).symm)
      · have c : ¬ (nI n).toInt ≤ (nI k).toInt := fun z => c ((rf_cc_iff _ _ .ge).mpr z)
        rw [nI_int (by omega), nI_int (by omega)] at c
        refine g1 (n := 1) rfl rfl rfl rfl ?_
        refine m_gf rfl hS.1 rfl (v := .ref 23) (by show va_rf (M.2.2 170 4) = _; rw [r4]; rfl) ?_
        refine g1 (n := 1) rfl rfl rfl rfl ?_
        refine m_gf rfl hS.1 rfl (v := .int (nI k)) rfl ?_
        refine m_il rfl hS.2.2.2.2.oa (nI_int (by omega)) (by omega) ?_
        refine m_st (as := [.int (M.1 23 k)]) (rest := []) rfl (by decide) rfl (Nat.le_of_ble_eq_true rfl) ⟨Nat.le_of_ble_eq_true rfl, Nat.le_of_ble_eq_true rfl, Nat.le_of_ble_eq_true rfl⟩ ?_
        refine gx_room (gx_mono (sc_sl (x := M.1 23 k)) ?_) (Nat.zero_le _) (Nat.zero_le _)
        rintro r h' ⟨rfl, rfl⟩
        refine g_if rfl (fun c2 => ?_) (fun c2 => ?_)
        · have c2 := bI_no c2
          exact after k h1 h2 (by rw [← h3]; exact (sp_e_no (by rw [c2]; simp)).symm)
        · have c2 := bI_yes c2
          refine g1 (n := 1) rfl rfl rfl rfl ?_
          refine g0 rfl rfl rfl ?_
          refine m_gf rfl hS.1 rfl (v := .int (nI k)) rfl ?_
          refine g1 (n := 1) rfl rfl rfl rfl ?_
          refine g0 rfl rfl rfl ?_
          refine m_pf rfl hS.1 rfl (M' := rf_wi (rf_wi M 170 6 (nI k)) 170 6 (nI k + Int32.ofInt 1)) rfl ?_
          refine g3 rfl rfl rfl ?_
          rw [rf_wi_wi, nI_suc (by omega)]
          exact ih (k + 1) (by omega) (by omega) (by omega) (by rw [← h3]; exact (sp_e_yes (by omega) c2).symm)
  refine g1 (n := 1) rfl rfl rfl rfl ?_
  refine m_gf rfl hS.1 rfl (v := .int (nI i)) (by show Value.int (M.1 170 6) = _; rw [a1]) ?_
  refine g2 (n := 1) rfl rfl rfl rfl ?_
  have := loop (n - i) i (Nat.le_refl _) (Nat.le_refl _) hin rfl
  rw [rf_wi_id a1] at this
  exact this
theorem sc_digits {i n l : Nat} (hS : sc_S fz S) (hM : sc_M fz S M) (hat : sc_at M i n l) (hin : i ≤ n) (hn : n ≤ 800) (hl : l ≤ 800) : gx (cx0 fz) (6, 190) 33 0 [(0, .ref 170)] [] (M, S) (fun r h' => r = none ∧ h' = (sc_dig M i n l, S)) := by
  obtain ⟨a1, a2, a3⟩ := hat
  have r0 : M.2.2 170 0 = some 171 := hM.1.1
  have r2 : M.2.2 170 2 = some 173 := hM.1.2.2.1
  have r4 : M.2.2 170 4 = some 23 := hM.1.2.2.2
  have loop : ∀ (m k : Nat), n - k ≤ m → i ≤ k → k ≤ n → sp_e sp_d (M.1 23) n k = sp_e sp_d (M.1 23) n i → gx (cx0 fz) (6, 190) 33 7 [(2, .int (sp_val (M.1 23) i (min (k - i) 9))), (1, .int (nI i)), (0, .ref 170)] [] (rf_wi M 170 6 (nI k), S) (fun r h' => r = none ∧ h' = (sc_dig M i n l, S)) := by
    have after : ∀ k, i ≤ k → k ≤ n → k = sp_e sp_d (M.1 23) n i → gx (cx0 fz) (6, 190) 33 75 [(2, .int (sp_val (M.1 23) i (min (k - i) 9))), (1, .int (nI i)), (0, .ref 170)] [] (rf_wi M 170 6 (nI k), S) (fun r h' => r = none ∧ h' = (sc_dig M i n l, S)) := by
      intro k h1 h2 h3
      have fin : ∀ x : Int32, x = (if 9 < k - i then 3 else 2) → gx (cx0 fz) (6, 190) 33 99 [(2, .int (sp_val (M.1 23) i (min (k - i) 9))), (1, .int (nI i)), (0, .ref 170)] [.int x, .int (nI l), .ref 171] (rf_wi M 170 6 (nI k), S) (fun r h' => r = none ∧ h' = (sc_dig M i n l, S)) := by
        intro x hx
        refine m_is rfl hS.2.1 (nI_int (by omega)) (by omega) ?_
        refine g1 (n := 1) rfl rfl rfl rfl ?_
        refine m_gf rfl hS.1 rfl (v := .ref 173) (by show va_rf (M.2.2 170 2) = _; rw [r2]; rfl) ?_
        refine g1 (n := 1) rfl rfl rfl rfl ?_
        refine m_gf rfl hS.1 rfl (v := .int (nI l)) (by show Value.int (M.1 170 3) = _; rw [a3]) ?_
        refine g1 (n := 1) rfl rfl rfl rfl ?_
        refine m_is rfl hS.2.2.2.1 (nI_int (by omega)) (by omega) ?_
        refine gx_ret rfl rfl ⟨rfl, ?_⟩
        unfold sc_dig
        rw [← h3, hx]
      refine g1 (n := 1) rfl rfl rfl rfl ?_
      refine m_gf rfl hS.1 rfl (v := .ref 171) (by show va_rf (M.2.2 170 0) = _; rw [r0]; rfl) ?_
      refine g1 (n := 1) rfl rfl rfl rfl ?_
      refine m_gf rfl hS.1 rfl (v := .int (nI l)) (by show Value.int (M.1 170 3) = _; rw [a3]) ?_
      refine g1 (n := 1) rfl rfl rfl rfl ?_
      refine m_gf rfl hS.1 rfl (v := .int (nI k)) rfl ?_
      refine g1 (n := 1) rfl rfl rfl rfl ?_
      refine g0 rfl rfl rfl ?_
      refine g1 (n := 2) rfl rfl rfl rfl ?_
      refine g_ic rfl (fun c => ?_) (fun c => ?_)
      · have c : (nI k - nI i).toInt ≤ 9 := (rf_cc_iff _ 9 .le).mp c
        rw [nI_sub h1 (by omega)] at c
        refine g1 (n := 1) rfl rfl rfl rfl ?_
        exact fin _ (by rw [if_neg (by omega)]; rfl)
      · have c : ¬ (nI k - nI i).toInt ≤ 9 := fun z => c ((rf_cc_iff _ 9 .le).mpr z)
        rw [nI_sub h1 (by omega)] at c
        refine g1 (n := 1) rfl rfl rfl rfl ?_
        refine g3 rfl rfl rfl ?_
        exact fin _ (by rw [if_pos (by omega)]; rfl)
    intro m
    induction m with
    | zero =>
      intro k h0 h1 h2 h3
      have hk : k = n := by omega
      refine g1 (n := 1) rfl rfl rfl rfl ?_
      refine m_gf rfl hS.1 rfl (v := .int (nI k)) rfl ?_
      refine g1 (n := 1) rfl rfl rfl rfl ?_
      refine m_gf rfl hS.1 rfl (v := .int (nI n)) (by show Value.int (M.1 170 5) = _; rw [a2]) ?_
      refine g_ic rfl (fun _ => ?_) (fun c => absurd ((rf_cc_iff _ _ .ge).mpr (by rw [hk]; exact Int.le_refl _)) c)
      exact after k h1 h2 (by rw [← h3]; exact (sp_e_no (by omega)).symm)
    | succ m ih =>
      intro k h0 h1 h2 h3
      refine g1 (n := 1) rfl rfl rfl rfl ?_
      refine m_gf rfl hS.1 rfl (v := .int (nI k)) rfl ?_
      refine g1 (n := 1) rfl rfl rfl rfl ?_
      refine m_gf rfl hS.1 rfl (v := .int (nI n)) (by show Value.int (M.1 170 5) = _; rw [a2]) ?_
      refine g_ic rfl (fun c => ?_) (fun c => ?_)
      · have c : (nI n).toInt ≤ (nI k).toInt := (rf_cc_iff _ _ .ge).mp c
        rw [nI_int (by omega), nI_int (by omega)] at c
        exact after k h1 h2 (by rw [← h3]; exact (sp_e_no (by omega)).symm)
      · have c : ¬ (nI n).toInt ≤ (nI k).toInt := fun z => c ((rf_cc_iff _ _ .ge).mpr z)
        rw [nI_int (by omega), nI_int (by omega)] at c
        refine g1 (n := 1) rfl rfl rfl rfl ?_
        refine m_gf rfl hS.1 rfl (v := .ref 23) (by show va_rf (M.2.2 170 4) = _; rw [r4]; rfl) ?_
        refine g1 (n := 1) rfl rfl rfl rfl ?_
        refine m_gf rfl hS.1 rfl (v := .int (nI k)) rfl ?_
        refine m_il rfl hS.2.2.2.2.oa (nI_int (by omega)) (by omega) ?_
        refine m_st (as := [.int (M.1 23 k)]) (rest := []) rfl (by decide) rfl (Nat.le_of_ble_eq_true rfl) ⟨Nat.le_of_ble_eq_true rfl, Nat.le_of_ble_eq_true rfl, Nat.le_of_ble_eq_true rfl⟩ ?_
        refine gx_room (gx_mono (sc_dg (x := M.1 23 k)) ?_) (Nat.zero_le _) (Nat.zero_le _)
        rintro r h' ⟨rfl, rfl⟩
        refine g_if rfl (fun c2 => ?_) (fun c2 => ?_)
        · have c2 := bI_no c2
          exact after k h1 h2 (by rw [← h3]; exact (sp_e_no (by rw [c2]; simp)).symm)
        · have c2 := bI_yes c2
          have step : ∀ x : Int32, x = sp_val (M.1 23) i (min (k + 1 - i) 9) → gx (cx0 fz) (6, 190) 33 62 [(2, .int x), (1, .int (nI i)), (0, .ref 170)] [] (rf_wi M 170 6 (nI k), S) (fun r h' => r = none ∧ h' = (sc_dig M i n l, S)) := by
            intro x hx
            refine g1 (n := 1) rfl rfl rfl rfl ?_
            refine g0 rfl rfl rfl ?_
            refine m_gf rfl hS.1 rfl (v := .int (nI k)) rfl ?_
            refine g1 (n := 1) rfl rfl rfl rfl ?_
            refine g0 rfl rfl rfl ?_
            refine m_pf rfl hS.1 rfl (M' := rf_wi (rf_wi M 170 6 (nI k)) 170 6 (nI k + Int32.ofInt 1)) rfl ?_
            refine g3 rfl rfl rfl ?_
            rw [rf_wi_wi, nI_suc (by omega), hx]
            exact ih (k + 1) (by omega) (by omega) (by omega) (by rw [← h3]; exact (sp_e_yes (by omega) c2).symm)
          refine g1 (n := 1) rfl rfl rfl rfl ?_
          refine m_gf rfl hS.1 rfl (v := .int (nI k)) rfl ?_
          refine g1 (n := 1) rfl rfl rfl rfl ?_
          refine g0 rfl rfl rfl ?_
          refine g1 (n := 2) rfl rfl rfl rfl ?_
          refine g_ic rfl (fun c3 => ?_) (fun c3 => ?_)
          · have c3 : (9 : Int) ≤ (nI k - nI i).toInt := (rf_cc_iff _ 9 .ge).mp c3
            rw [nI_sub h1 (by omega)] at c3
            exact step _ (by rw [show min (k + 1 - i) 9 = min (k - i) 9 by omega])
          · have c3 : ¬ (9 : Int) ≤ (nI k - nI i).toInt := fun z => c3 ((rf_cc_iff _ 9 .ge).mpr z)
            rw [nI_sub h1 (by omega)] at c3
            refine g1 (n := 1) rfl rfl rfl rfl ?_
            refine g1 (n := 2) rfl rfl rfl rfl ?_
            refine g0 rfl rfl rfl ?_
            refine g1 (n := 1) rfl rfl rfl rfl ?_
            refine m_gf rfl hS.1 rfl (v := .ref 23) (by show va_rf (M.2.2 170 4) = _; rw [r4]; rfl) ?_
            refine g1 (n := 1) rfl rfl rfl rfl ?_
            refine m_gf rfl hS.1 rfl (v := .int (nI k)) rfl ?_
            refine m_il rfl hS.2.2.2.2.oa (nI_int (by omega)) (by omega) ?_
            refine g1 (n := 2) rfl rfl rfl rfl ?_
            refine g0 rfl rfl rfl ?_
            refine g0 rfl rfl rfl ?_
            refine g2 (n := 1) rfl rfl rfl rfl ?_
            refine step _ ?_
            rw [show min (k + 1 - i) 9 = min (k - i) 9 + 1 by omega]
            show _ = sp_val (M.1 23) i (min (k - i) 9) * 10 + (M.1 23 (i + min (k - i) 9) - 48)
            rw [show i + min (k - i) 9 = k by omega]
            rfl
  refine g1 (n := 1) rfl rfl rfl rfl ?_
  refine m_gf rfl hS.1 rfl (v := .int (nI i)) (by show Value.int (M.1 170 6) = _; rw [a1]) ?_
  refine g2 (n := 1) rfl rfl rfl rfl ?_
  refine g1 (n := 1) rfl rfl rfl rfl ?_
  refine g2 (n := 1) rfl rfl rfl rfl ?_
  have := loop (n - i) i (Nat.le_refl _) (Nat.le_refl _) hin rfl
  rw [rf_wi_id a1, show min (i - i) 9 = 0 by omega] at this
  exact this
end SC3
/-! one token; the whole text -/
def sc_tok (M : rf_M) (i n l : Nat) : rf_M := if sp_l (M.1 23 i) = true then sc_let (rf_wi (rf_wi M 172 l (nI i)) 173 l 0) i n l else if sp_d (M.1 23 i) = true then sc_dig (rf_wi (rf_wi M 172 l (nI i)) 173 l 0) i n l else rf_wi (rf_wi (rf_wi (rf_wi M 172 l (nI i)) 173 l 0) 171 l (if sp_s (M.1 23 i) = true then M.1 23 i else 3)) 170 6 (nI (i + 1))
/-- a token: what it is, its number, where it ends -/
def sp_tok (b : Nat → Int32) (n i : Nat) : Int32 × Int32 × Nat := if sp_l (b i) = true then (if sp_e sp_l b n i - i = 1 then (1, b i - 97, sp_e sp_l b n i) else (sp_word b i (sp_e sp_l b n i), 0, sp_e sp_l b n i)) else if sp_d (b i) = true then ((if 9 < sp_e sp_d b n i - i then 3 else 2), sp_val b i (min (sp_e sp_d b n i - i) 9), sp_e sp_d b n i) else ((if sp_s (b i) = true then b i else 3), 0, i + 1)
def sp_bl (x : Int32) : Bool := decide (x.toInt = 32) || decide (x.toInt = 10)
/-- the tokens from i on: what, where, number -/
def sp_scan (b : Nat → Int32) (n : Nat) : Nat → Nat → List (Int32 × Nat × Int32)
  | 0, _ => []
  | f + 1, i => if i < n then (if sp_bl (b i) = true then sp_scan b n f (i + 1) else ((sp_tok b n i).1, i, (sp_tok b n i).2.1) :: sp_scan b n f (sp_tok b n i).2.2) else []
section SC4
variable {fz : Bool} {S : gS} {M : rf_M}
theorem rf_wi_at (M : rf_M) (a k : Nat) (x : Int32) : (rf_wi M a k x).1 a k = x := rf_up2s _ _ _ _
theorem rf_wi_of (M : rf_M) {a k a' k' : Nat} (x : Int32) (h : a' ≠ a ∨ k' ≠ k) : (rf_wi M a k x).1 a' k' = M.1 a' k' := rf_up2 _ _ h
theorem sc_readToken {i n l : Nat} (hS : sc_S fz S) (hM : sc_M fz S M) (hat : sc_at M i n l) (hin : i < n) (hn : n ≤ 800) (hl : l ≤ 800) : gx (cx0 fz) (7, 220) 20 0 [(0, .ref 170)] [] (M, S) (fun r h' => r = none ∧ h' = (sc_tok M i n l, S)) := by
  obtain ⟨a1, a2, a3⟩ := hat
  have r0 : M.2.2 170 0 = some 171 := hM.1.1
  have r1 : M.2.2 170 1 = some 172 := hM.1.2.1
  have r2 : M.2.2 170 2 = some 173 := hM.1.2.2.1
  have r4 : M.2.2 170 4 = some 23 := hM.1.2.2.2
  refine g1 (n := 1) rfl rfl rfl rfl ?_
  refine m_gf rfl hS.1 rfl (v := .ref 172) (by show va_rf (M.2.2 170 1) = _; rw [r1]; rfl) ?_
  refine g1 (n := 1) rfl rfl rfl rfl ?_
  refine m_gf rfl hS.1 rfl (v := .int (nI l)) (by show Value.int (M.1 170 3) = _; rw [a3]) ?_
  refine g1 (n := 1) rfl rfl rfl rfl ?_
  refine m_gf rfl hS.1 rfl (v := .int (nI i)) (by show Value.int (M.1 170 6) = _; rw [a1]) ?_
  refine m_is rfl hS.2.2.1 (nI_int (by omega)) (by omega) ?_
  refine g1 (n := 1) rfl rfl rfl rfl ?_
  refine m_gf rfl hS.1 rfl (v := .ref 173) (by show va_rf (M.2.2 170 2) = _; rw [r2]; rfl) ?_
  refine g1 (n := 1) rfl rfl rfl rfl ?_
  refine m_gf rfl hS.1 rfl (v := .int (nI l)) (by show Value.int (M.1 170 3) = _; rw [a3]) ?_
  refine g1 (n := 1) rfl rfl rfl rfl ?_
  refine m_is rfl hS.2.2.2.1 (nI_int (by omega)) (by omega) ?_
  have hM0 : sc_M fz S (rf_wi (rf_wi M 172 l (nI i)) 173 l (Int32.ofInt 0)) := sc_M_wi (by omega) (sc_M_wi (by omega) hM)
  have hat0 : sc_at (rf_wi (rf_wi M 172 l (nI i)) 173 l (Int32.ofInt 0)) i n l := ⟨a1, a2, a3⟩
  refine g1 (n := 1) rfl rfl rfl rfl ?_
  refine m_gf rfl hS.1 rfl (v := .ref 23) (by show va_rf (M.2.2 170 4) = _; rw [r4]; rfl) ?_
  refine g1 (n := 1) rfl rfl rfl rfl ?_
  refine m_gf rfl hS.1 rfl (v := .int (nI i)) (by show Value.int (M.1 170 6) = _; rw [a1]) ?_
  refine m_il rfl hS.2.2.2.2.oa (nI_int (by omega)) (by omega) ?_
  refine m_st (as := [.int (M.1 23 i)]) (rest := []) rfl (by decide) rfl (Nat.le_of_ble_eq_true rfl) ⟨Nat.le_of_ble_eq_true rfl, Nat.le_of_ble_eq_true rfl, Nat.le_of_ble_eq_true rfl⟩ ?_
  refine gx_room (gx_mono (sc_sl (x := M.1 23 i)) ?_) (Nat.zero_le _) (Nat.zero_le _)
  rintro r h' ⟨rfl, rfl⟩
  refine g_if rfl (fun c => ?_) (fun c => ?_)
  · have c := bI_no c
    refine g1 (n := 1) rfl rfl rfl rfl ?_
    refine m_gf rfl hS.1 rfl (v := .ref 23) (by show va_rf (M.2.2 170 4) = _; rw [r4]; rfl) ?_
    refine g1 (n := 1) rfl rfl rfl rfl ?_
    refine m_gf rfl hS.1 rfl (v := .int (nI i)) (by show Value.int (M.1 170 6) = _; rw [a1]) ?_
    refine m_il rfl hS.2.2.2.2.oa (nI_int (by omega)) (by omega) ?_
    refine m_st (as := [.int (M.1 23 i)]) (rest := []) rfl (by decide) rfl (Nat.le_of_ble_eq_true rfl) ⟨Nat.le_of_ble_eq_true rfl, Nat.le_of_ble_eq_true rfl, Nat.le_of_ble_eq_true rfl⟩ ?_
    refine gx_room (gx_mono (sc_dg (x := M.1 23 i)) ?_) (Nat.zero_le _) (Nat.zero_le _)
    rintro r h' ⟨rfl, rfl⟩
    refine g_if rfl (fun c2 => ?_) (fun c2 => ?_)
    · have c2 := bI_no c2
      have fin : ∀ x : Int32, x = (if sp_s (M.1 23 i) = true then M.1 23 i else 3) → gx (cx0 fz) (7, 220) 20 103 [(0, .ref 170)] [.int x, .int (nI l), .ref 171] (rf_wi (rf_wi M 172 l (nI i)) 173 l (Int32.ofInt 0), S) (fun r h' => r = none ∧ h' = (sc_tok M i n l, S)) := by
        intro x hx
        refine m_is rfl hS.2.1 (nI_int (by omega)) (by omega) ?_
        refine g1 (n := 1) rfl rfl rfl rfl ?_
        refine g0 rfl rfl rfl ?_
        refine m_gf rfl hS.1 rfl (v := .int (nI i)) (by show Value.int (M.1 170 6) = _; rw [a1]) ?_
        refine g1 (n := 1) rfl rfl rfl rfl ?_
        refine g0 rfl rfl rfl ?_
        refine m_pf rfl hS.1 rfl (M' := rf_wi (rf_wi (rf_wi (rf_wi M 172 l (nI i)) 173 l (Int32.ofInt 0)) 171 l x) 170 6 (nI i + Int32.ofInt 1)) rfl ?_
        refine gx_ret rfl rfl ⟨rfl, ?_⟩
        unfold sc_tok
        rw [c, c2, nI_suc (by omega), hx]
        rfl
      refine g1 (n := 1) rfl rfl rfl rfl ?_
      refine m_gf rfl hS.1 rfl (v := .ref 171) (by show va_rf (M.2.2 170 0) = _; rw [r0]; rfl) ?_
      refine g1 (n := 1) rfl rfl rfl rfl ?_
      refine m_gf rfl hS.1 rfl (v := .int (nI l)) (by show Value.int (M.1 170 3) = _; rw [a3]) ?_
      refine g1 (n := 1) rfl rfl rfl rfl ?_
      refine m_gf rfl hS.1 rfl (v := .ref 23) (by show va_rf (M.2.2 170 4) = _; rw [r4]; rfl) ?_
      refine g1 (n := 1) rfl rfl rfl rfl ?_
      refine m_gf rfl hS.1 rfl (v := .int (nI i)) (by show Value.int (M.1 170 6) = _; rw [a1]) ?_
      refine m_il rfl hS.2.2.2.2.oa (nI_int (by omega)) (by omega) ?_
      refine m_st (as := [.int (M.1 23 i)]) (rest := [.int (nI l), .ref 171]) rfl (by decide) rfl (Nat.le_of_ble_eq_true rfl) ⟨Nat.le_of_ble_eq_true rfl, Nat.le_of_ble_eq_true rfl, Nat.le_of_ble_eq_true rfl⟩ ?_
      refine gx_room (gx_mono (sc_sym (x := M.1 23 i)) ?_) (Nat.zero_le _) (Nat.zero_le _)
      rintro r h' ⟨rfl, rfl⟩
      refine g_if rfl (fun c3 => ?_) (fun c3 => ?_)
      · have c3 := bI_no c3
        refine g1 (n := 1) rfl rfl rfl rfl ?_
        exact fin _ (by rw [c3]; rfl)
      · have c3 := bI_yes c3
        refine g1 (n := 1) rfl rfl rfl rfl ?_
        refine m_gf rfl hS.1 rfl (v := .ref 23) (by show va_rf (M.2.2 170 4) = _; rw [r4]; rfl) ?_
        refine g1 (n := 1) rfl rfl rfl rfl ?_
        refine m_gf rfl hS.1 rfl (v := .int (nI i)) (by show Value.int (M.1 170 6) = _; rw [a1]) ?_
        refine m_il rfl hS.2.2.2.2.oa (nI_int (by omega)) (by omega) ?_
        refine g3 rfl rfl rfl ?_
        exact fin _ (by rw [c3]; rfl)
    · have c2 := bI_yes c2
      refine g1 (n := 1) rfl rfl rfl rfl ?_
      refine m_iv (a := 170) (as := []) (rest := []) rfl (by decide) hS.1 rfl rfl (Nat.le_of_ble_eq_true rfl) ⟨Nat.le_of_ble_eq_true rfl, Nat.le_of_ble_eq_true rfl, Nat.le_of_ble_eq_true rfl⟩ ?_
      refine gx_room (gx_mono (sc_digits hS hM0 hat0 (by omega) hn hl) ?_) (Nat.le_of_ble_eq_true rfl) (Nat.le_of_ble_eq_true rfl)
      rintro r h' ⟨rfl, rfl⟩
      refine g3 rfl rfl rfl ?_
      refine gx_ret rfl rfl ⟨rfl, ?_⟩
      unfold sc_tok
      rw [c, c2]
      rfl
  · have c := bI_yes c
    refine g1 (n := 1) rfl rfl rfl rfl ?_
    refine m_iv (a := 170) (as := []) (rest := []) rfl (by decide) hS.1 rfl rfl (Nat.le_of_ble_eq_true rfl) ⟨Nat.le_of_ble_eq_true rfl, Nat.le_of_ble_eq_true rfl, Nat.le_of_ble_eq_true rfl⟩ ?_
    refine gx_room (gx_mono (sc_letters hS hM0 hat0 (by omega) hn hl) ?_) (Nat.le_of_ble_eq_true rfl) (Nat.le_of_ble_eq_true rfl)
    rintro r h' ⟨rfl, rfl⟩
    refine g3 rfl rfl rfl ?_
    refine gx_ret rfl rfl ⟨rfl, ?_⟩
    unfold sc_tok
    rw [c]
    rfl
/-- what a token leaves -/
theorem sc_tok_ok (M : rf_M) (i n l : Nat) : (sc_tok M i n l).1 171 l = (sp_tok (M.1 23) n i).1 ∧ (sc_tok M i n l).1 172 l = nI i ∧ (sc_tok M i n l).1 173 l = (sp_tok (M.1 23) n i).2.1 ∧ (sc_tok M i n l).1 170 6 = nI (sp_tok (M.1 23) n i).2.2 ∧ (∀ a k, ¬ (a = 170 ∧ k = 6) → ¬ ((a = 171 ∨ a = 172 ∨ a = 173) ∧ k = l) → (sc_tok M i n l).1 a k = M.1 a k) ∧ (sc_tok M i n l).2 = M.2 := by
  have e23 : (rf_wi (rf_wi M 172 l (nI i)) 173 l 0).1 23 = M.1 23 := rfl
  have gen : ∀ (x6 x171 x173 : Int32) (M' : rf_M), (M'.1 171 l = x171 ∧ M'.1 172 l = nI i ∧ M'.1 173 l = x173 ∧ M'.1 170 6 = x6 ∧ (∀ a k, ¬ (a = 170 ∧ k = 6) → ¬ ((a = 171 ∨ a = 172 ∨ a = 173) ∧ k = l) → M'.1 a k = M.1 a k) ∧ M'.2 = M.2) → M'.1 171 l = x171 ∧ M'.1 172 l = nI i ∧ M'.1 173 l = x173 ∧ M'.1 170 6 = x6 ∧ (∀ a k, ¬ (a = 170 ∧ k = 6) → ¬ ((a = 171 ∨ a = 172 ∨ a = 173) ∧ k = l) → M'.1 a k = M.1 a k) ∧ M'.2 = M.2 := fun _ _ _ _ h => h
  unfold sc_tok sp_tok
  by_cases h1 : sp_l (M.1 23 i) = true
  · rw [if_pos h1, if_pos h1]
    unfold sc_let
    rw [e23]
    by_cases h2 : sp_e sp_l (M.1 23) n i - i = 1
    · rw [if_pos h2, if_pos h2]
      refine ⟨?_, ?_, ?_, ?_, fun a k q1 q2 => ?_, rfl⟩
      · rw [rf_wi_of _ _ (by omega), rf_wi_at]
      · rw [rf_wi_of _ _ (by omega), rf_wi_of _ _ (by omega), rf_wi_of _ _ (by omega), rf_wi_of _ _ (by omega), rf_wi_at]
      · rw [rf_wi_at]
      · rw [rf_wi_of _ _ (by omega), rf_wi_of _ _ (by omega), rf_wi_at]
      · rw [rf_wi_of _ _ (by omega), rf_wi_of _ _ (by omega), rf_wi_of _ _ (by omega), rf_wi_of _ _ (by omega), rf_wi_of _ _ (by omega)]
    · rw [if_neg h2, if_neg h2]
      refine ⟨?_, ?_, ?_, ?_, fun a k q1 q2 => ?_, rfl⟩
      · rw [rf_wi_at]
      · rw [rf_wi_of _ _ (by omega), rf_wi_of _ _ (by omega), rf_wi_of _ _ (by omega), rf_wi_at]
      · rw [rf_wi_of _ _ (by omega), rf_wi_of _ _ (by omega), rf_wi_at]
      · rw [rf_wi_of _ _ (by omega), rf_wi_at]
      · rw [rf_wi_of _ _ (by omega), rf_wi_of _ _ (by omega), rf_wi_of _ _ (by omega), rf_wi_of _ _ (by omega)]
  · rw [if_neg h1, if_neg h1]
    by_cases h2 : sp_d (M.1 23 i) = true
    · rw [if_pos h2, if_pos h2]
      unfold sc_dig
      rw [e23]
      refine ⟨?_, ?_, ?_, ?_, fun a k q1 q2 => ?_, rfl⟩
      · rw [rf_wi_of _ _ (by omega), rf_wi_at]
      · rw [rf_wi_of _ _ (by omega), rf_wi_of _ _ (by omega), rf_wi_of _ _ (by omega), rf_wi_of _ _ (by omega), rf_wi_at]
      · rw [rf_wi_at]
      · rw [rf_wi_of _ _ (by omega), rf_wi_of _ _ (by omega), rf_wi_at]
      · rw [rf_wi_of _ _ (by omega), rf_wi_of _ _ (by omega), rf_wi_of _ _ (by omega), rf_wi_of _ _ (by omega), rf_wi_of _ _ (by omega)]
    · rw [if_neg h2, if_neg h2]
      refine ⟨?_, ?_, ?_, ?_, fun a k q1 q2 => ?_, rfl⟩
      · rw [rf_wi_of _ _ (by omega), rf_wi_at]
      · rw [rf_wi_of _ _ (by omega), rf_wi_of _ _ (by omega), rf_wi_of _ _ (by omega), rf_wi_at]
      · rw [rf_wi_of _ _ (by omega), rf_wi_of _ _ (by omega), rf_wi_at]
      · rw [rf_wi_at]
      · rw [rf_wi_of _ _ (by omega), rf_wi_of _ _ (by omega), rf_wi_of _ _ (by omega), rf_wi_of _ _ (by omega)]
theorem sp_tok_next {b : Nat → Int32} {n i : Nat} (h : i < n) : i < (sp_tok b n i).2.2 ∧ (sp_tok b n i).2.2 ≤ n := by
  unfold sp_tok
  by_cases h1 : sp_l (b i) = true
  · rw [if_pos h1]
    have e := sp_e_yes (p := sp_l) (b := b) h h1
    have := sp_e_le (p := sp_l) (b := b) (n := n) (i := i + 1) (by omega)
    split
    · dsimp only; omega
    · dsimp only; omega
  · rw [if_neg h1]
    by_cases h2 : sp_d (b i) = true
    · rw [if_pos h2]
      have e := sp_e_yes (p := sp_d) (b := b) h h2
      have := sp_e_le (p := sp_d) (b := b) (n := n) (i := i + 1) (by omega)
      dsimp only; omega
    · rw [if_neg h2]
      dsimp only; omega
end SC4
/-! the whole text -/
section M3
variable {cx : rf_C} {d : Nat × Nat} {i pc : Nat} {ls : rf_L} {st : List Value} {Q : Option Value → rf_H → Prop} {M : rf_M} {S : gS}
theorem m_min {J : Instr} {x y : Int32} (hf : cx.1 i pc = some (J, [(12, 0)])) (hk : rf_kd J = 5) (hd : rf_ok8 st d 13 = true) (k : gx cx d i (pc + 3) ls (.int (if y < x then y else x) :: st) (M, S) Q) : gx cx d i pc ls (.int y :: .int x :: st) (M, S) Q := by
  refine gx_step hf (pc' := pc + 3) (ls' := ls) (st' := .int (if y < x then y else x) :: st) (h' := (M, S)) ?_ k
  unfold rf_ex
  simp only [hk]
  show (if (10 : Int) ≤ 12 then (rf_bi cx 12 d (.int y :: .int x :: st) (M, S)).map _ else _) = _
  rw [if_pos (by decide)]
  show ((if rf_ok8 st d 13 = true then some (Value.int (if y < x then y else x) :: st, (M, S)) else none).map _) = _
  rw [if_pos hd]
  rfl
end M3
/-- the tokens T lie in the rows -/
def sc_row (M : rf_M) (T : List (Int32 × Nat × Int32)) : Prop := ∀ (t : Nat) (e : Int32 × Nat × Int32), T[t]? = some e → M.1 171 t = e.1 ∧ M.1 172 t = nI e.2.1 ∧ M.1 173 t = e.2.2
/-- nothing else has changed, from slot q on nothing in the rows -/
def sc_fr (M M' : rf_M) (q : Nat) : Prop := (∀ a k, ¬ (a = 170 ∧ (k = 3 ∨ k = 5 ∨ k = 6)) → ¬ ((a = 171 ∨ a = 172 ∨ a = 173) ∧ k < q) → M'.1 a k = M.1 a k) ∧ M'.2.1 = M.2.1 ∧ M'.2.2 = (rf_wq M 170 4 (some 23)).2.2
/-- the text is scanned -/
def sc_done (fz : Bool) (S : gS) (M : rf_M) (n : Nat) (T : List (Int32 × Nat × Int32)) (M' : rf_M) : Prop := sc_M fz S M' ∧ M'.1 170 3 = nI T.length ∧ T.length ≤ 800 ∧ sc_row M' T ∧ M'.1 171 T.length = 0 ∧ M'.1 172 T.length = nI n ∧ M'.1 173 T.length = 0 ∧ sc_fr M M' (T.length + 1) ∧ (∃ p, p ≤ n ∧ M'.1 170 6 = nI p) ∧ M'.1 170 5 = nI n
theorem sp_scan_end {b : Nat → Int32} {n : Nat} : ∀ (f i : Nat), n ≤ i → sp_scan b n f i = []
  | 0, _, _ => rfl
  | f + 1, i, h => by
    show (if i < n then _ else _) = _
    rw [if_neg (by omega)]
section SC5
variable {fz : Bool} {S : gS} {M : rf_M}
theorem sc_scan {n : Nat} (hS : sc_S fz S) (hM : sc_M fz S (rf_wq M 170 4 (some 23))) (hn : n ≤ 800) : gx (cx0 fz) (8, 260) 19 0 [(0, .ref 170), (1, .ref 23), (2, .int (nI n))] [] (M, S) (fun r h' => r = none ∧ ∃ M', h' = (M', S) ∧ sc_done fz S M n (sp_scan (M.1 23) n 800 0) M') := by
  have tape : ∀ M' q, sc_fr M M' q → M'.1 23 = M.1 23 := by
    intro M' q h
    funext k
    exact h.1 23 k (by omega) (by omega)
  have after : ∀ (it p : Nat) (T : List (Int32 × Nat × Int32)) (M' : rf_M), sc_M fz S M' → sc_at M' p n T.length → p ≤ n → T.length ≤ 800 → sc_row M' T → sc_fr M M' T.length → T = sp_scan (M.1 23) n 800 0 → gx (cx0 fz) (8, 260) 19 112 [(3, .int (nI it)), (0, .ref 170), (1, .ref 23), (2, .int (nI n))] [] (M', S) (fun r h' => r = none ∧ ∃ M', h' = (M', S) ∧ sc_done fz S M n (sp_scan (M.1 23) n 800 0) M') := by
    intro it p T M' hM' hat hp hT hrow hfr hTe
    obtain ⟨a1, a2, a3⟩ := hat
    have r0 : M'.2.2 170 0 = some 171 := hM'.1.1
    have r1 : M'.2.2 170 1 = some 172 := hM'.1.2.1
    have r2 : M'.2.2 170 2 = some 173 := hM'.1.2.2.1
    refine g1 (n := 1) rfl rfl rfl rfl ?_
    refine m_gf rfl hS.1 rfl (v := .ref 171) (by show va_rf (M'.2.2 170 0) = _; rw [r0]; rfl) ?_
    refine g1 (n := 1) rfl rfl rfl rfl ?_
    refine m_gf rfl hS.1 rfl (v := .int (nI T.length)) (by show Value.int (M'.1 170 3) = _; rw [a3]) ?_
    refine g1 (n := 1) rfl rfl rfl rfl ?_
    refine m_is rfl hS.2.1 (nI_int (by omega)) (by omega) ?_
    refine g1 (n := 1) rfl rfl rfl rfl ?_
    refine m_gf rfl hS.1 rfl (v := .ref 172) (by show va_rf (M'.2.2 170 1) = _; rw [r1]; rfl) ?_
    refine g1 (n := 1) rfl rfl rfl rfl ?_
    refine m_gf rfl hS.1 rfl (v := .int (nI T.length)) (by show Value.int (M'.1 170 3) = _; rw [a3]) ?_
    refine g1 (n := 1) rfl rfl rfl rfl ?_
    refine m_gf rfl hS.1 rfl (v := .int (nI n)) (by show Value.int (M'.1 170 5) = _; rw [a2]) ?_
    refine m_is rfl hS.2.2.1 (nI_int (by omega)) (by omega) ?_
    refine g1 (n := 1) rfl rfl rfl rfl ?_
    refine m_gf rfl hS.1 rfl (v := .ref 173) (by show va_rf (M'.2.2 170 2) = _; rw [r2]; rfl) ?_
    refine g1 (n := 1) rfl rfl rfl rfl ?_
    refine m_gf rfl hS.1 rfl (v := .int (nI T.length)) (by show Value.int (M'.1 170 3) = _; rw [a3]) ?_
    refine g1 (n := 1) rfl rfl rfl rfl ?_
    refine m_is rfl hS.2.2.2.1 (nI_int (by omega)) (by omega) ?_
    refine gx_ret rfl rfl ⟨rfl, _, rfl, ?_⟩
    rw [← hTe]
    refine ⟨sc_M_wi (by omega) (sc_M_wi (by omega) (sc_M_wi (by omega) hM')), a3, hT, ?_, ?_, ?_, ?_, ⟨?_, hfr.2.1, hfr.2.2⟩, ⟨p, hp, a1⟩, a2⟩
    · intro t e he
      have ht : t < T.length := (List.getElem?_eq_some_iff.mp he).1
      obtain ⟨e1, e2, e3⟩ := hrow t e he
      refine ⟨?_, ?_, ?_⟩
      · rw [rf_wi_of _ _ (by omega), rf_wi_of _ _ (by omega), rf_wi_of _ _ (by omega)]; exact e1
      · rw [rf_wi_of _ _ (by omega), rf_wi_of _ _ (by omega), rf_wi_of _ _ (by omega)]; exact e2
      · rw [rf_wi_of _ _ (by omega), rf_wi_of _ _ (by omega), rf_wi_of _ _ (by omega)]; exact e3
    · rw [rf_wi_of _ _ (by omega), rf_wi_of _ _ (by omega), rf_wi_at]; rfl
    · rw [rf_wi_of _ _ (by omega), rf_wi_at]
    · rw [rf_wi_at]; rfl
    · intro a k q1 q2
      rw [rf_wi_of _ _ (by omega), rf_wi_of _ _ (by omega), rf_wi_of _ _ (by omega)]
      exact hfr.1 a k q1 (by omega)
  have loop : ∀ (m it p : Nat) (T : List (Int32 × Nat × Int32)) (M' : rf_M), 800 - it ≤ m → it ≤ 800 → sc_M fz S M' → sc_at M' p n T.length → p ≤ n → T.length ≤ it → sc_row M' T → sc_fr M M' T.length → T ++ sp_scan (M.1 23) n (800 - it) p = sp_scan (M.1 23) n 800 0 → gx (cx0 fz) (8, 260) 19 33 [(3, .int (nI it)), (0, .ref 170), (1, .ref 23), (2, .int (nI n))] [] (M', S) (fun r h' => r = none ∧ ∃ M', h' = (M', S) ∧ sc_done fz S M n (sp_scan (M.1 23) n 800 0) M') := by
    intro m
    induction m with
    | zero =>
      intro it p T M' h0 h1 hM' hat hp hT hrow hfr hTe
      have hit : it = 800 := by omega
      refine g1 (n := 1) rfl rfl rfl rfl ?_
      refine g1 (n := 3) rfl rfl rfl rfl ?_
      refine g_ic rfl (fun _ => ?_) (fun c => absurd ((rf_cc_iff _ 800 .ge).mpr (by rw [hit]; show (Int32.toInt 800) ≤ (nI 800).toInt; rw [nI_int (by omega)]; decide)) c)
      refine after it p T M' hM' hat hp (by omega) hrow hfr ?_
      rw [hit] at hTe
      rw [← hTe]
      exact (List.append_nil T).symm
    | succ m ih =>
      intro it p T M' h0 h1 hM' hat hp hT hrow hfr hTe
      obtain ⟨a1, a2, a3⟩ := hat
      have r4 : M'.2.2 170 4 = some 23 := hM'.1.2.2.2
      have ht := tape M' _ hfr
      refine g1 (n := 1) rfl rfl rfl rfl ?_
      refine g1 (n := 3) rfl rfl rfl rfl ?_
      refine g_ic rfl (fun c => ?_) (fun c => ?_)
      · have c : (800 : Int) ≤ (nI it).toInt := (rf_cc_iff _ 800 .ge).mp c
        rw [nI_int (by omega)] at c
        have hit : it = 800 := by omega
        refine after it p T M' hM' ⟨a1, a2, a3⟩ hp (by omega) hrow hfr ?_
        rw [hit] at hTe
        rw [← hTe]
        exact (List.append_nil T).symm
      have c : ¬ (800 : Int) ≤ (nI it).toInt := fun z => c ((rf_cc_iff _ 800 .ge).mpr z)
      rw [nI_int (by omega)] at c
      refine g1 (n := 1) rfl rfl rfl rfl ?_
      refine m_gf rfl hS.1 rfl (v := .int (nI p)) (by show Value.int (M'.1 170 6) = _; rw [a1]) ?_
      refine g1 (n := 1) rfl rfl rfl rfl ?_
      refine m_gf rfl hS.1 rfl (v := .int (nI n)) (by show Value.int (M'.1 170 5) = _; rw [a2]) ?_
      refine g_ic rfl (fun c2 => ?_) (fun c2 => ?_)
      · have c2 : (nI n).toInt ≤ (nI p).toInt := (rf_cc_iff _ _ .ge).mp c2
        rw [nI_int (by omega), nI_int (by omega)] at c2
        refine after it p T M' hM' ⟨a1, a2, a3⟩ hp (by omega) hrow hfr ?_
        rw [sp_scan_end _ _ (by omega), List.append_nil] at hTe
        exact hTe
      have c2 : ¬ (nI n).toInt ≤ (nI p).toInt := fun z => c2 ((rf_cc_iff _ _ .ge).mpr z)
      rw [nI_int (by omega), nI_int (by omega)] at c2
      obtain ⟨f, hf⟩ : ∃ f, 800 - it = f + 1 := ⟨800 - it - 1, by omega⟩
      have hf2 : 800 - (it + 1) = f := by omega
      have hsc : sp_scan (M.1 23) n (800 - it) p = if sp_bl (M.1 23 p) = true then sp_scan (M.1 23) n f (p + 1) else ((sp_tok (M.1 23) n p).1, p, (sp_tok (M.1 23) n p).2.1) :: sp_scan (M.1 23) n f (sp_tok (M.1 23) n p).2.2 := by
        rw [hf]
        show (if p < n then _ else _) = _
        rw [if_pos (by omega)]
      have inc : ∀ (p' : Nat) (T' : List (Int32 × Nat × Int32)) (M'' : rf_M), sc_M fz S M'' → sc_at M'' p' n T'.length → p' ≤ n → T'.length ≤ it + 1 → sc_row M'' T' → sc_fr M M'' T'.length → T' ++ sp_scan (M.1 23) n f p' = sp_scan (M.1 23) n 800 0 → gx (cx0 fz) (8, 260) 19 106 [(3, .int (nI it)), (0, .ref 170), (1, .ref 23), (2, .int (nI n))] [] (M'', S) (fun r h' => r = none ∧ ∃ M', h' = (M', S) ∧ sc_done fz S M n (sp_scan (M.1 23) n 800 0) M') := by
        intro p' T' M'' q1 q2 q3 q4 q5 q6 q7
        refine g2 (n := 3) rfl rfl rfl rfl ?_
        refine g3 rfl rfl rfl ?_
        have e2 : rf_s1 [(3, Value.int (nI it)), (0, .ref 170), (1, .ref 23), (2, .int (nI n))] 3 (.int (nI it + Int32.ofInt 1)) = [(3, .int (nI (it + 1))), (0, .ref 170), (1, .ref 23), (2, .int (nI n))] := by rw [nI_suc (by omega)]; rfl
        rw [e2]
        exact ih (it + 1) p' T' M'' (by omega) (by omega) q1 q2 q3 q4 q5 q6 (by rw [hf2]; exact q7)
      have blank : sp_bl (M.1 23 p) = true → gx (cx0 fz) (8, 260) 19 79 [(3, .int (nI it)), (0, .ref 170), (1, .ref 23), (2, .int (nI n))] [] (M', S) (fun r h' => r = none ∧ ∃ M', h' = (M', S) ∧ sc_done fz S M n (sp_scan (M.1 23) n 800 0) M') := by
        intro hb
        refine g1 (n := 1) rfl rfl rfl rfl ?_
        refine g0 rfl rfl rfl ?_
        refine m_gf rfl hS.1 rfl (v := .int (nI p)) (by show Value.int (M'.1 170 6) = _; rw [a1]) ?_
        refine g1 (n := 1) rfl rfl rfl rfl ?_
        refine g0 rfl rfl rfl ?_
        refine m_pf rfl hS.1 rfl (M' := rf_wi M' 170 6 (nI p + Int32.ofInt 1)) rfl ?_
        refine g3 rfl rfl rfl ?_
        rw [nI_suc (by omega)]
        refine inc (p + 1) T _ (sc_M_wi (by omega) hM') ⟨rf_wi_at _ _ _ _, a2, a3⟩ (by omega) (by omega) ?_ ⟨?_, hfr.2.1, hfr.2.2⟩ ?_
        · intro t e he
          exact hrow t e he
        · intro a k q1 q2
          rw [rf_wi_of _ _ (by omega)]
          exact hfr.1 a k q1 q2
        · rw [hsc, if_pos hb] at hTe
          exact hTe
      refine g1 (n := 1) rfl rfl rfl rfl ?_
      refine m_gf rfl hS.1 rfl (v := .ref 23) (by show va_rf (M'.2.2 170 4) = _; rw [r4]; rfl) ?_
      refine g1 (n := 1) rfl rfl rfl rfl ?_
      refine m_gf rfl hS.1 rfl (v := .int (nI p)) (by show Value.int (M'.1 170 6) = _; rw [a1]) ?_
      refine m_il rfl hS.2.2.2.2.oa (nI_int (by omega)) (by omega) ?_
      rw [ht]
      refine g1 (n := 2) rfl rfl rfl rfl ?_
      refine g_ic rfl (fun c3 => ?_) (fun c3 => ?_)
      · have c3 : (M.1 23 p).toInt = 32 := (rf_cc_iff _ 32 .eq).mp c3
        exact blank (by unfold sp_bl; simp [c3])
      have c3 : ¬ (M.1 23 p).toInt = 32 := fun z => c3 ((rf_cc_iff _ 32 .eq).mpr z)
      refine g1 (n := 1) rfl rfl rfl rfl ?_
      refine m_gf rfl hS.1 rfl (v := .ref 23) (by show va_rf (M'.2.2 170 4) = _; rw [r4]; rfl) ?_
      refine g1 (n := 1) rfl rfl rfl rfl ?_
      refine m_gf rfl hS.1 rfl (v := .int (nI p)) (by show Value.int (M'.1 170 6) = _; rw [a1]) ?_
      refine m_il rfl hS.2.2.2.2.oa (nI_int (by omega)) (by omega) ?_
      rw [ht]
      refine g1 (n := 2) rfl rfl rfl rfl ?_
      refine g_ic rfl (fun c4 => ?_) (fun c4 => ?_)
      · have c4 : ¬ (M.1 23 p).toInt = 10 := (rf_cc_iff _ 10 .ne).mp c4
        have hb : sp_bl (M.1 23 p) = false := by unfold sp_bl; simp [c3, c4]
        refine g1 (n := 1) rfl rfl rfl rfl ?_
        refine m_iv (a := 170) (as := []) (rest := []) rfl (by decide) hS.1 rfl rfl (Nat.le_of_ble_eq_true rfl) ⟨Nat.le_of_ble_eq_true rfl, Nat.le_of_ble_eq_true rfl, Nat.le_of_ble_eq_true rfl⟩ ?_
        refine gx_room (gx_mono (sc_readToken hS hM' ⟨a1, a2, a3⟩ (by omega) hn (by omega)) ?_) (Nat.le_of_ble_eq_true rfl) (Nat.le_of_ble_eq_true rfl)
        rintro r h' ⟨rfl, rfl⟩
        obtain ⟨k1, k2, k3, k4, k5, k6⟩ := sc_tok_ok M' p n T.length
        rw [ht] at k1 k3 k4
        have hnx := sp_tok_next (b := M.1 23) (n := n) (i := p) (by omega)
        generalize sc_tok M' p n T.length = Mt at k1 k2 k3 k4 k5 k6 ⊢
        have kS : ∀ c k, c < 22 → Mt.1 c k = M'.1 c k := fun c k hc => k5 c k (by omega) (by omega)
        have kR : ∀ c k, Mt.2.2 c k = M'.2.2 c k := fun c k => by rw [k6]
        have hMt : sc_M fz S Mt := sc_M_of kS kR hM'
        refine g1 (n := 1) rfl rfl rfl rfl ?_
        refine g0 rfl rfl rfl ?_
        refine m_gf rfl hS.1 rfl (v := .int (nI T.length)) (by show Value.int (Mt.1 170 3) = _; rw [k5 170 3 (by omega) (by omega), a3]) ?_
        refine g1 (n := 1) rfl rfl rfl rfl ?_
        refine g0 rfl rfl rfl ?_
        refine m_pf rfl hS.1 rfl (M' := rf_wi Mt 170 3 (nI T.length + Int32.ofInt 1)) rfl ?_
        rw [nI_suc (by omega)]
        have hlen : (T ++ [((sp_tok (M.1 23) n p).1, p, (sp_tok (M.1 23) n p).2.1)]).length = T.length + 1 := by simp
        refine inc (sp_tok (M.1 23) n p).2.2 (T ++ [((sp_tok (M.1 23) n p).1, p, (sp_tok (M.1 23) n p).2.1)]) _ (sc_M_wi (by omega) hMt) ⟨?_, ?_, ?_⟩ (by omega) (by omega) ?_ ⟨?_, ?_, ?_⟩ ?_
        · rw [rf_wi_of _ _ (by omega)]; exact k4
        · rw [rf_wi_of _ _ (by omega), k5 170 5 (by omega) (by omega)]; exact a2
        · rw [rf_wi_at, hlen]
        · intro t e he
          rcases sx_snoc he with h | ⟨h, rfl⟩
          · have htl : t < T.length := (List.getElem?_eq_some_iff.mp h).1
            obtain ⟨e1, e2, e3⟩ := hrow t e h
            refine ⟨?_, ?_, ?_⟩
            · rw [rf_wi_of _ _ (by omega), k5 171 t (by omega) (by omega)]; exact e1
            · rw [rf_wi_of _ _ (by omega), k5 172 t (by omega) (by omega)]; exact e2
            · rw [rf_wi_of _ _ (by omega), k5 173 t (by omega) (by omega)]; exact e3
          · subst h
            refine ⟨?_, ?_, ?_⟩
            · rw [rf_wi_of _ _ (by omega)]; exact k1
            · rw [rf_wi_of _ _ (by omega)]; exact k2
            · rw [rf_wi_of _ _ (by omega)]; exact k3
        · intro a k q1 q2
          rw [hlen] at q2
          rw [rf_wi_of _ _ (by omega), k5 a k (by omega) (by omega)]
          exact hfr.1 a k q1 (by omega)
        · show Mt.2.1 = M.2.1
          rw [k6]; exact hfr.2.1
        · show Mt.2.2 = _
          rw [k6]; exact hfr.2.2
        · rw [hsc, if_neg (by rw [hb]; simp)] at hTe
          rw [List.append_assoc]
          exact hTe
      · have c4 : (M.1 23 p).toInt = 10 := Classical.byContradiction fun z => c4 ((rf_cc_iff _ 10 .ne).mpr z)
        exact blank (by unfold sp_bl; simp [c4])
  have eN : ∀ x : Int32, x = nI n → (if nI 800 < x then nI 800 else x) = nI n := by
    intro x hx
    rw [hx, if_neg]
    rw [Int32.lt_iff_toInt_lt, nI_int (by omega), nI_int (by omega)]
    omega
  refine g1 (n := 1) rfl rfl rfl rfl ?_
  refine g1 (n := 1) rfl rfl rfl rfl ?_
  refine m_pf rfl hS.1 rfl (M' := rf_wq M 170 4 (some 23)) rfl ?_
  refine g1 (n := 1) rfl rfl rfl rfl ?_
  refine g1 (n := 1) rfl rfl rfl rfl ?_
  refine g1 (n := 1) rfl rfl rfl rfl ?_
  refine m_ln rfl hS.2.2.2.2.oa ?_
  refine m_min rfl rfl rfl ?_
  rw [eN _ rfl]
  refine g1 (n := 3) rfl rfl rfl rfl ?_
  refine m_min rfl rfl rfl ?_
  rw [show (Int16.ofInt 800).toInt32 = nI 800 from rfl, eN _ rfl]
  refine m_pf rfl hS.1 rfl (M' := rf_wi (rf_wq M 170 4 (some 23)) 170 5 (nI n)) rfl ?_
  refine g1 (n := 1) rfl rfl rfl rfl ?_
  refine g1 (n := 1) rfl rfl rfl rfl ?_
  refine m_pf rfl hS.1 rfl (M' := rf_wi (rf_wi (rf_wq M 170 4 (some 23)) 170 5 (nI n)) 170 6 (nI 0)) rfl ?_
  refine g1 (n := 1) rfl rfl rfl rfl ?_
  refine g1 (n := 1) rfl rfl rfl rfl ?_
  refine m_pf rfl hS.1 rfl (M' := rf_wi (rf_wi (rf_wi (rf_wq M 170 4 (some 23)) 170 5 (nI n)) 170 6 (nI 0)) 170 3 (nI 0)) rfl ?_
  refine g1 (n := 1) rfl rfl rfl rfl ?_
  refine g2 (n := 1) rfl rfl rfl rfl ?_
  refine loop 800 0 0 [] _ (by omega) (by omega) (sc_M_wi (by omega) (sc_M_wi (by omega) (sc_M_wi (by omega) hM))) ⟨rfl, rfl, rfl⟩ (by omega) (by simp) (fun t e he => by simp at he) ⟨fun a k q1 q2 => ?_, rfl, rfl⟩ (by simp)
  rw [rf_wi_of _ _ (by omega), rf_wi_of _ _ (by omega), rf_wi_of _ _ (by omega)]
  rfl
end SC5
/-! bounds of what the scanner lays down -/
theorem sp_end_all {p : Int32 → Bool} {b : Nat → Int32} {n : Nat} : ∀ (f i t : Nat), i ≤ t → t < sp_end p b n f i → p (b t) = true
  | 0, i, t, h1, h2 => by
    have h2 : t < i := h2
    omega
  | f + 1, i, t, h1, h2 => by
    have h2 : t < (if i < n ∧ p (b i) = true then sp_end p b n f (i + 1) else i) := h2
    split at h2
    · rename_i hc
      by_cases e : t = i
      · rw [e]; exact hc.2
      · exact sp_end_all f (i + 1) t (by omega) h2
    · omega
theorem sp_word_b (b : Nat → Int32) (i j : Nat) : 0 ≤ (sp_word b i j).toInt ∧ (sp_word b i j).toInt ≤ 125 := by
  unfold sp_word
  repeat' split
  all_goals exact ⟨by decide, by decide⟩
theorem sp_val_b {b : Nat → Int32} {i : Nat} : ∀ (k : Nat), k ≤ 9 → (∀ t, t < k → sp_d (b (i + t)) = true) → 0 ≤ (sp_val b i k).toInt ∧ (sp_val b i k).toInt < (10 : Int) ^ k
  | 0, _, _ => ⟨by show (0 : Int) ≤ (0 : Int32).toInt; decide, by show (0 : Int32).toInt < (10 : Int) ^ 0; decide⟩
  | k + 1, h, hd => by
    obtain ⟨h1, h2⟩ := sp_val_b (b := b) (i := i) k (by omega) (fun t ht => hd t (by omega))
    have hk := hd k (by omega)
    unfold sp_d at hk
    simp only [Bool.and_eq_true, decide_eq_true_eq] at hk
    have hp : (10 : Int) ^ k ≤ 100000000 := by
      have hk9 : k = 0 ∨ k = 1 ∨ k = 2 ∨ k = 3 ∨ k = 4 ∨ k = 5 ∨ k = 6 ∨ k = 7 ∨ k = 8 := by omega
      rcases hk9 with rfl | rfl | rfl | rfl | rfl | rfl | rfl | rfl | rfl <;> decide
    show 0 ≤ (sp_val b i k * 10 + (b (i + k) - 48)).toInt ∧ (sp_val b i k * 10 + (b (i + k) - 48)).toInt < (10 : Int) ^ (k + 1)
    have e10 : (10 : Int32).toInt = 10 := by decide
    have e48 : (48 : Int32).toInt = 48 := by decide
    have m1 : (sp_val b i k * 10).toInt = (sp_val b i k).toInt * 10 := by
      rw [Int32.toInt_mul, e10]
      exact Int.bmod_eq_of_le (by omega) (by omega)
    have m2 : (b (i + k) - 48).toInt = (b (i + k)).toInt - 48 := by
      rw [Int32.toInt_sub, e48]
      exact Int.bmod_eq_of_le (by omega) (by omega)
    have m3 : (sp_val b i k * 10 + (b (i + k) - 48)).toInt = (sp_val b i k).toInt * 10 + ((b (i + k)).toInt - 48) := by
      rw [Int32.toInt_add, m1, m2]
      exact Int.bmod_eq_of_le (by omega) (by omega)
    rw [m3, Int.pow_succ]
    omega
theorem sp_tok_b {b : Nat → Int32} {n i : Nat} (h : i < n) : 0 ≤ (sp_tok b n i).1.toInt ∧ (sp_tok b n i).1.toInt ≤ 125 ∧ 0 ≤ (sp_tok b n i).2.1.toInt ∧ (sp_tok b n i).2.1.toInt ≤ 999999999 := by
  unfold sp_tok
  by_cases h1 : sp_l (b i) = true
  · rw [if_pos h1]
    split
    · unfold sp_l at h1
      simp only [Bool.and_eq_true, decide_eq_true_eq] at h1
      have m2 : (b i - 97).toInt = (b i).toInt - 97 := by
        rw [Int32.toInt_sub, show (97 : Int32).toInt = 97 by decide]
        exact Int.bmod_eq_of_le (by omega) (by omega)
      dsimp only
      rw [m2, show (1 : Int32).toInt = 1 by decide]
      omega
    · dsimp only
      have := sp_word_b b i (sp_e sp_l b n i)
      rw [Int32.toInt_zero]
      omega
  · rw [if_neg h1]
    by_cases h2 : sp_d (b i) = true
    · rw [if_pos h2]
      dsimp only
      have hv := sp_val_b (b := b) (i := i) (min (sp_e sp_d b n i - i) 9) (by omega) (fun t ht => sp_end_all (n - i) i (i + t) (by omega) (by
        have : i + t < sp_e sp_d b n i := by omega
        exact this))
      have hp : (10 : Int) ^ (min (sp_e sp_d b n i - i) 9) ≤ 1000000000 := by
        generalize hk : min (sp_e sp_d b n i - i) 9 = k
        have hk9 : k = 0 ∨ k = 1 ∨ k = 2 ∨ k = 3 ∨ k = 4 ∨ k = 5 ∨ k = 6 ∨ k = 7 ∨ k = 8 ∨ k = 9 := by omega
        rcases hk9 with rfl | rfl | rfl | rfl | rfl | rfl | rfl | rfl | rfl | rfl <;> decide
      refine ⟨?_, ?_, by omega, by omega⟩
      · split <;> decide
      · split <;> decide
    · rw [if_neg h2]
      dsimp only
      refine ⟨?_, ?_, by decide, by decide⟩
      · split
        · rename_i h3
          have := List.elem_iff.mp h3
          simp only [List.mem_cons, List.not_mem_nil, or_false] at this
          omega
        · decide
      · split
        · rename_i h3
          have := List.elem_iff.mp h3
          simp only [List.mem_cons, List.not_mem_nil, or_false] at this
          omega
        · decide
theorem sp_scan_b {b : Nat → Int32} {n : Nat} : ∀ (f i : Nat) (e : Int32 × Nat × Int32), e ∈ sp_scan b n f i → (0 ≤ e.1.toInt ∧ e.1.toInt ≤ 125) ∧ e.2.1 < n ∧ (0 ≤ e.2.2.toInt ∧ e.2.2.toInt ≤ 999999999)
  | 0, _, _, h => by cases h
  | f + 1, i, e, h => by
    have h : e ∈ (if i < n then (if sp_bl (b i) = true then sp_scan b n f (i + 1) else ((sp_tok b n i).1, i, (sp_tok b n i).2.1) :: sp_scan b n f (sp_tok b n i).2.2) else []) := h
    split at h
    · rename_i hi
      split at h
      · exact sp_scan_b f (i + 1) e h
      · rcases List.mem_cons.mp h with rfl | h
        · obtain ⟨t1, t2, t3, t4⟩ := sp_tok_b (b := b) hi
          exact ⟨⟨t1, t2⟩, hi, t3, t4⟩
        · exact sp_scan_b f _ e h
    · cases h
/-! THE SCANNER'S CONTRACT, as the checker wants it -/
def rg_is (g a : Nat) : Bool := (List.range 384).all (fun k => !(xk_rg (k + 22) == g) || decide (k + 22 = a))
theorem rg_iso {g a b : Nat} (h : rg_is g a = true) (h1 : 22 ≤ b) (h2 : b < 406) (h3 : xk_rg b = g) : b = a := by
  have h := List.all_eq_true.mp h (b - 22) (List.mem_range.mpr (by omega))
  rw [show b - 22 + 22 = b by omega, h3] at h
  simpa using h
theorem rg_17 : rg_is 17 170 = true := by decide +kernel
theorem rg_18 : rg_is 18 171 = true := by decide +kernel
theorem rg_19 : rg_is 19 172 = true := by decide +kernel
theorem rg_20 : rg_is 20 173 = true := by decide +kernel
theorem rg_1 : rg_is 1 23 = true := by decide +kernel
/-- the words lie in the memory of old -/
def xk_old (fz : Bool) (S : gS) (m0 : rf_M) : Prop := sc_w fz S m0 2 3 [105, 102] ∧ sc_w fz S m0 4 5 [101, 108, 115, 101] ∧ sc_w fz S m0 6 7 [119, 104, 105, 108, 101] ∧ sc_w fz S m0 8 9 [114, 101, 116, 114, 121] ∧ sc_w fz S m0 10 11 [116, 104, 114, 111, 119] ∧ sc_w fz S m0 12 13 [101, 105, 116, 104, 101, 114] ∧ sc_w fz S m0 14 15 [111, 114] ∧ sc_w fz S m0 16 17 [116, 114, 121] ∧ sc_w fz S m0 18 19 [99, 97, 116, 99, 104] ∧ sc_w fz S m0 20 21 [97, 108, 119, 97, 121, 115]
section EXT
variable {fz : Bool} {S : gS} {m0 : rf_M} {hp : 0 < (cx0 fz).2.2.2.2} {hs : ∀ a, (cx0 fz).2.2.2.2 ≤ a → a < S.2.1 → sx_sh xk_G (xk_rg a) (S.1 a)} {M : rf_M}
theorem xk_go {a ci g : Nat} {fs : List sxF} (hs : ∀ a, (cx0 fz).2.2.2.2 ≤ a → a < S.2.1 → sx_sh xk_G (xk_rg a) (S.1 a)) (h1 : 22 ≤ a) (h2 : a < S.2.1) (hg : xk_rg a = g) (hG : xk_G[g]? = some (.inl (ci, fs))) : go (cx0 fz) S a ci := by
  have h := hs a h1 h2
  unfold sx_sh at h
  rw [hg, hG] at h
  exact ⟨h1, by omega, h2, h⟩
theorem xk_ga {a len g : Nat} {ty : FieldType} {e : sxF} (hs : ∀ a, (cx0 fz).2.2.2.2 ≤ a → a < S.2.1 → sx_sh xk_G (xk_rg a) (S.1 a)) (h1 : 22 ≤ a) (h2 : a < S.2.1) (hg : xk_rg a = g) (hG : xk_G[g]? = some (.inr (ty, len, e))) : ga (cx0 fz) S a ty len := by
  have h := hs a h1 h2
  unfold sx_sh at h
  rw [hg, hG] at h
  exact ⟨h1, by omega, h2, h⟩
theorem xk_scS (hn : S.2.1 = 406) (hs : ∀ a, (cx0 fz).2.2.2.2 ≤ a → a < S.2.1 → sx_sh xk_G (xk_rg a) (S.1 a)) : sc_S fz S :=
  ⟨xk_go hs (by omega) (by omega) (g := 17) rfl rfl, xk_ga hs (by omega) (by omega) (g := 18) rfl rfl, xk_ga hs (by omega) (by omega) (g := 19) rfl rfl, xk_ga hs (by omega) (by omega) (g := 20) rfl rfl, xk_ga hs (by omega) (by omega) (g := 1) rfl rfl⟩
/-- a reference of a region of one cell -/
theorem xk_ref {a k g c : Nat} (hn : S.2.1 = 406) (hin : sx_in ⟨(cx0 fz, xk_G, xk_rg, S, m0), hp, hs⟩ M) (h1 : 22 ≤ a) (h2 : a < 406) (hf : sx_fa xk_G (xk_rg a) k = some (.inr (some (g, false)))) (hg : rg_is g c = true) : M.2.2 a k = some c := by
  have h : sx_f ⟨(cx0 fz, xk_G, xk_rg, S, m0), hp, hs⟩ M a k (.inr (some (g, false))) := hin.1 a k _ h1 (by show a < S.2.1; omega) hf
  unfold sx_f at h
  dsimp only at h
  cases hR : M.2.2 a k with
  | none => rw [hR] at h; cases h
  | some b =>
    rw [hR] at h
    have h : sx_rc ⟨(cx0 fz, xk_G, xk_rg, S, m0), hp, hs⟩ g b := h
    have hb : b < S.2.1 := h.2.1
    rw [rg_iso hg h.1 (by omega) h.2.2]
theorem rf_wq_at (M : rf_M) (a k : Nat) (x : Option Nat) : (rf_wq M a k x).2.2 a k = x := rf_up2s _ _ _ _
theorem rf_wq_of (M : rf_M) {a k a' k' : Nat} (x : Option Nat) (h : a' ≠ a ∨ k' ≠ k) : (rf_wq M a k x).2.2 a' k' = M.2.2 a' k' := rf_up2 _ _ h
theorem xk_scM (hn : S.2.1 = 406) (hw : xk_old fz S m0) (hin : sx_in ⟨(cx0 fz, xk_G, xk_rg, S, m0), hp, hs⟩ M) : sc_M fz S (rf_wq M 170 4 (some 23)) := by
  have o1 : ∀ c k, c < 22 → (rf_wq M 170 4 (some 23)).1 c k = m0.1 c k := fun c k hc => (hin.2 c k hc).1
  have o2 : ∀ c k, c < 22 → (rf_wq M 170 4 (some 23)).2.2 c k = m0.2.2 c k := fun c k hc => (rf_wq_of M (some 23) (Or.inl (by omega))).trans (hin.2 c k hc).2.2
  obtain ⟨w1, w2, w3, w4, w5, w6, w7, w8, w9, w10⟩ := hw
  refine ⟨⟨?_, ?_, ?_, rf_wq_at _ _ _ _⟩, sc_w_of o1 (o2 _ _ (by omega)) ⟨by omega, by omega⟩ w1, sc_w_of o1 (o2 _ _ (by omega)) ⟨by omega, by omega⟩ w2, sc_w_of o1 (o2 _ _ (by omega)) ⟨by omega, by omega⟩ w3, sc_w_of o1 (o2 _ _ (by omega)) ⟨by omega, by omega⟩ w4, sc_w_of o1 (o2 _ _ (by omega)) ⟨by omega, by omega⟩ w5, sc_w_of o1 (o2 _ _ (by omega)) ⟨by omega, by omega⟩ w6, sc_w_of o1 (o2 _ _ (by omega)) ⟨by omega, by omega⟩ w7, sc_w_of o1 (o2 _ _ (by omega)) ⟨by omega, by omega⟩ w8, sc_w_of o1 (o2 _ _ (by omega)) ⟨by omega, by omega⟩ w9, sc_w_of o1 (o2 _ _ (by omega)) ⟨by omega, by omega⟩ w10⟩
  · exact (rf_wq_of M (some 23) (Or.inr (by decide))).trans (xk_ref (hp := hp) (hs := hs) hn hin (by decide) (by decide) rfl rg_18)
  · exact (rf_wq_of M (some 23) (Or.inr (by decide))).trans (xk_ref (hp := hp) (hs := hs) hn hin (by decide) (by decide) rfl rg_19)
  · exact (rf_wq_of M (some 23) (Or.inr (by decide))).trans (xk_ref (hp := hp) (hs := hs) hn hin (by decide) (by decide) rfl rg_20)
/-- behind the scanner all is as the regions say -/
theorem sc_in {n : Nat} {M' : rf_M} (hn8 : n ≤ 800) (hn : S.2.1 = 406) (hin : sx_in ⟨(cx0 fz, xk_G, xk_rg, S, m0), hp, hs⟩ M) (hd : sc_done fz S M n (sp_scan (M.1 23) n 800 0) M') : sx_in ⟨(cx0 fz, xk_G, xk_rg, S, m0), hp, hs⟩ M' ∧ sx_fr ⟨(cx0 fz, xk_G, xk_rg, S, m0), hp, hs⟩ xk_c_0.2.2.2.1 M M' := by
  obtain ⟨d1, d2, d3, d4, d5, d6, d7, ⟨d8, d9, d10⟩, ⟨p, d11, d12⟩, d13⟩ := hd
  generalize hT : sp_scan (M.1 23) n 800 0 = T at d1 d2 d3 d4 d5 d6 d7 d8
  have hb : ∀ e ∈ T, (0 ≤ e.1.toInt ∧ e.1.toInt ≤ 125) ∧ e.2.1 < n ∧ (0 ≤ e.2.2.toInt ∧ e.2.2.toInt ≤ 999999999) := fun e he => sp_scan_b 800 0 e (by rw [hT]; exact he)
  have dR : ∀ a k, ¬ (a = 170 ∧ k = 4) → M'.2.2 a k = M.2.2 a k := fun a k h => by
    rw [d10]
    exact rf_up2 M.2.2 (some 23) (by omega)
  -- what lies in the rows
  have rows : ∀ k, (0 ≤ (M'.1 171 k).toInt ∧ (M'.1 171 k).toInt ≤ 125 ∧ 0 ≤ (M'.1 172 k).toInt ∧ (M'.1 172 k).toInt ≤ 800 ∧ 0 ≤ (M'.1 173 k).toInt ∧ (M'.1 173 k).toInt ≤ 999999999) ∨ (M'.1 171 k = M.1 171 k ∧ M'.1 172 k = M.1 172 k ∧ M'.1 173 k = M.1 173 k) := by
    intro k
    by_cases h1 : k < T.length
    · left
      have he := List.getElem?_eq_getElem h1
      obtain ⟨e1, e2, e3⟩ := d4 k _ he
      obtain ⟨⟨b1, b2⟩, b3, b4, b5⟩ := hb _ (List.getElem_mem h1)
      rw [e1, e2, e3, nI_int (by omega)]
      omega
    · by_cases h2 : k = T.length
      · left
        subst h2
        rw [d5, d6, d7, nI_int (by omega), Int32.toInt_zero]
        omega
      · right
        exact ⟨d8 171 k (by omega) (by omega), d8 172 k (by omega) (by omega), d8 173 k (by omega) (by omega)⟩
  refine ⟨⟨fun a k f h1 h2 h3 => ?_, fun a k h => ?_⟩, fun a k h => ?_⟩
  · have h1 : 22 ≤ a := h1
    have h2' : a < S.2.1 := h2
    have h3 : sx_fa xk_G (xk_rg a) k = some f := h3
    have hold := hin.1 a k f h1 h2 h3
    by_cases ha : a = 170
    · subst ha
      have e : sx_fa xk_G (xk_rg 170) k = ([.inr (some (18, false)), .inr (some (19, false)), .inr (some (20, false)), .inl (0, 800), .inr none, .inl (0, 800), .inl (0, 800)] : List sxF)[k]? := rfl
      rw [e] at h3
      have hk : k < 7 := (List.getElem?_eq_some_iff.mp h3).1
      have hk7 : k = 0 ∨ k = 1 ∨ k = 2 ∨ k = 3 ∨ k = 4 ∨ k = 5 ∨ k = 6 := by omega
      rcases hk7 with rfl | rfl | rfl | rfl | rfl | rfl | rfl
      · exact sx_f_same ⟨d8 170 0 (by omega) (by omega), by rw [d9], dR 170 0 (by omega)⟩ hold
      · exact sx_f_same ⟨d8 170 1 (by omega) (by omega), by rw [d9], dR 170 1 (by omega)⟩ hold
      · exact sx_f_same ⟨d8 170 2 (by omega) (by omega), by rw [d9], dR 170 2 (by omega)⟩ hold
      · cases h3
        show (0 : Int) ≤ (M'.1 170 3).toInt ∧ (M'.1 170 3).toInt ≤ 800
        rw [d2, nI_int (by omega)]; omega
      · cases h3; trivial
      · cases h3
        show (0 : Int) ≤ (M'.1 170 5).toInt ∧ (M'.1 170 5).toInt ≤ 800
        rw [d13, nI_int (by omega)]; omega
      · cases h3
        show (0 : Int) ≤ (M'.1 170 6).toInt ∧ (M'.1 170 6).toInt ≤ 800
        rw [d12, nI_int (by omega)]; omega
    · by_cases ha1 : a = 171 ∨ a = 172 ∨ a = 173
      · have hk8 : k < 801 ∧ ((a = 171 ∧ f = .inl (0, 125)) ∨ (a = 172 ∧ f = .inl (0, 800)) ∨ (a = 173 ∧ f = .inl (0, 999999999))) := by
          rcases ha1 with rfl | rfl | rfl
          · have e : sx_fa xk_G (xk_rg 171) k = if k < 801 then some (.inl (0, 125)) else none := rfl
            rw [e] at h3
            split at h3
            · cases h3; exact ⟨by assumption, Or.inl ⟨rfl, rfl⟩⟩
            · cases h3
          · have e : sx_fa xk_G (xk_rg 172) k = if k < 801 then some (.inl (0, 800)) else none := rfl
            rw [e] at h3
            split at h3
            · cases h3; exact ⟨by assumption, Or.inr (Or.inl ⟨rfl, rfl⟩)⟩
            · cases h3
          · have e : sx_fa xk_G (xk_rg 173) k = if k < 801 then some (.inl (0, 999999999)) else none := rfl
            rw [e] at h3
            split at h3
            · cases h3; exact ⟨by assumption, Or.inr (Or.inr ⟨rfl, rfl⟩)⟩
            · cases h3
        rcases rows k with r | r
        · rcases hk8.2 with ⟨rfl, rfl⟩ | ⟨rfl, rfl⟩ | ⟨rfl, rfl⟩
          · exact ⟨r.1, r.2.1⟩
          · exact ⟨r.2.2.1, r.2.2.2.1⟩
          · exact ⟨r.2.2.2.2.1, r.2.2.2.2.2⟩
        · rcases hk8.2 with ⟨rfl, rfl⟩ | ⟨rfl, rfl⟩ | ⟨rfl, rfl⟩
          · exact sx_f_same ⟨r.1, by rw [d9], dR _ _ (by omega)⟩ hold
          · exact sx_f_same ⟨r.2.1, by rw [d9], dR _ _ (by omega)⟩ hold
          · exact sx_f_same ⟨r.2.2, by rw [d9], dR _ _ (by omega)⟩ hold
      · exact sx_f_same ⟨d8 a k (by omega) (by omega), by rw [d9], dR a k (by omega)⟩ hold
  · have h : a < 22 := h
    have h0 := hin.2 a k h
    exact ⟨(d8 a k (by omega) (by omega)).trans h0.1, by rw [d9]; exact h0.2.1, (dR a k (by omega)).trans h0.2.2⟩
  · have key : (a < 22 ∨ ((xk_rg a, 0) ∉ xk_c_0.2.2.2.1 ∧ (xk_rg a, k + 1) ∉ xk_c_0.2.2.2.1)) → ¬ (a = 170 ∧ (k = 3 ∨ k = 4 ∨ k = 5 ∨ k = 6)) ∧ ¬ (a = 171 ∨ a = 172 ∨ a = 173) := by
      intro h
      constructor
      · rintro ⟨rfl, hk⟩
        rcases h with h | h
        · omega
        · rcases hk with rfl | rfl | rfl | rfl
          · exact h.2 (by decide)
          · exact h.2 (by decide)
          · exact h.2 (by decide)
          · exact h.2 (by decide)
      · rintro (rfl | rfl | rfl)
        · rcases h with h | h
          · omega
          · exact h.1 (by decide)
        · rcases h with h | h
          · omega
          · exact h.1 (by decide)
        · rcases h with h | h
          · omega
          · exact h.1 (by decide)
    obtain ⟨k1, k2⟩ := key h
    exact ⟨d8 a k (by omega) (by omega), by rw [d9], dR a k (by omega)⟩
theorem xk_scan_ok (hn : S.2.1 = 406) (hw : xk_old fz S m0) (args : List Value) : sx_cok xk_T ⟨(cx0 fz, xk_G, xk_rg, S, m0), hp, hs⟩ xk_c_0 args := by
  intro M d hrm hin hfit
  match args, hfit with
  | [v0, v1, v2], hfit =>
    obtain ⟨⟨o0, rfl, f0⟩, ⟨o1, rfl, f1⟩, ⟨z, rfl, z1, z2⟩, -⟩ := hfit
    cases o0 with
    | none => cases f0
    | some b0 =>
      cases o1 with
      | none => cases f1
      | some b1 =>
        have f0 : sx_rc ⟨(cx0 fz, xk_G, xk_rg, S, m0), hp, hs⟩ 17 b0 := f0
        have f1 : sx_rc ⟨(cx0 fz, xk_G, xk_rg, S, m0), hp, hs⟩ 1 b1 := f1
        have e0 : b0 = 170 := rg_iso rg_17 f0.1 (by have : b0 < S.2.1 := f0.2.1; omega) f0.2.2
        have e1 : b1 = 23 := rg_iso rg_1 f1.1 (by have : b1 < S.2.1 := f1.2.1; omega) f1.2.2
        subst e0 e1
        have ez : z = nI z.toInt.toNat := by
          refine Int32.toInt_inj.mp ?_
          rw [nI_int (by omega)]
          omega
        have hmv : sx_mv xk_c_0 [va_rf (some 170), va_rf (some 23), .int z] = 8 := rfl
        rw [hmv] at hrm
        have hr1 : 8 ≤ d.1 := hrm.1
        have hr2 : 8 * 29 + 30 ≤ d.2 := hrm.2
        obtain ⟨m, hm8, rfl⟩ : ∃ m, m ≤ 800 ∧ z = nI m := ⟨z.toInt.toNat, by omega, ez⟩
        refine gx_room (d := (8, 260)) (gx_mono (sc_scan (n := m) (xk_scS hn hs) (xk_scM (hp := hp) (hs := hs) hn hw hin) hm8) ?_) hr1 (by show 260 ≤ d.2; omega)
        rintro r h' ⟨rfl, M', rfl, hd⟩
        obtain ⟨i1, i2⟩ := sc_in (hp := hp) (hs := hs) hm8 hn hin hd
        exact ⟨M', rfl, i1, i2, trivial⟩
  | [], h => exact h.elim
  | [_], h => exact h.2.elim
  | [_, _], h => exact h.2.2.elim
  | _ :: _ :: _ :: _ :: _, h => exact h.2.2.2.elim
end EXT
/-! ALL CONTRACTS HOLD in the world behind the constructors -/
theorem pt_r (row : Nat → Int32) (sh : rf_S) (h : rf_H) (a k : Nat) : (pt_H row sh h).1.2.2 a k = h.1.2.2 a k := rfl
theorem HK_r (fz : Bool) (L : Nat) (xs : Nat → Int32) (a k : Nat) : (HK fz L xs).1.2.2 a k = (K2 fz).1.2.2 a k := by
  unfold HK
  generalize K2 fz = h
  exact pt_r xs (.inr (.int, L)) h a k
theorem xk_wbo (fz : Bool) (L : Nat) (xs : Nat → Int32) {a b : Nat} {w : List Nat} (ha : 1 < a ∧ a < 22) (hb : 1 < b ∧ b < 22) (hw : w.length ≤ 100) (h : xk_wb (K2 fz) a b w = true) : sc_w fz (HK fz L xs).2 (HK fz L xs).1 a b w := by
  unfold xk_wb at h
  simp only [Bool.and_eq_true, decide_eq_true_eq, List.all_eq_true, List.mem_range] at h
  obtain ⟨h1, h2, h3, h4, h5⟩ := h
  have eS : ∀ c, 1 < c → (HK fz L xs).2.1 c = (K2 fz).2.1 c := fun c hc => by
    show va_up (K2 fz).2.1 1 _ c = _
    unfold va_up
    rw [if_neg (by omega)]
  have eI : ∀ c k, 1 < c → (HK fz L xs).1.1 c k = (K2 fz).1.1 c k := fun c k hc => by
    show va_up (K2 fz).1.1 1 xs c k = _
    unfold va_up
    rw [if_neg (by omega)]
  have hn : (HK fz L xs).2.2.1 = 406 := HK_n fz L xs
  refine ⟨⟨⟨by omega, ha.2, by rw [hn]; omega, by rw [eS a ha.1]; exact h1⟩, ⟨by omega, by rw [hn]; omega, by rw [eS b hb.1]; exact h2⟩, (HK_r fz L xs a 0).trans h3, by rw [eI a 1 ha.1]; exact h4, hw, fun k hk => ?_⟩, fun t ht => by rw [eI b t hb.1]; exact (h5 t ht).1⟩
  exact ⟨w.getD k 0, (h5 k hk).2, by rw [eI b k hb.1]; exact (h5 k hk).1⟩
theorem xk_oldHK (fz : Bool) (L : Nat) (xs : Nat → Int32) : xk_old fz (HK fz L xs).2 (HK fz L xs).1 := by
  have h := List.all_eq_true.mp (K2_words fz)
  exact ⟨xk_wbo fz L xs (by decide) (by decide) (by decide) (h (2, 3, [105, 102]) (by decide)), xk_wbo fz L xs (by decide) (by decide) (by decide) (h (4, 5, [101, 108, 115, 101]) (by decide)), xk_wbo fz L xs (by decide) (by decide) (by decide) (h (6, 7, [119, 104, 105, 108, 101]) (by decide)), xk_wbo fz L xs (by decide) (by decide) (by decide) (h (8, 9, [114, 101, 116, 114, 121]) (by decide)), xk_wbo fz L xs (by decide) (by decide) (by decide) (h (10, 11, [116, 104, 114, 111, 119]) (by decide)), xk_wbo fz L xs (by decide) (by decide) (by decide) (h (12, 13, [101, 105, 116, 104, 101, 114]) (by decide)), xk_wbo fz L xs (by decide) (by decide) (by decide) (h (14, 15, [111, 114]) (by decide)), xk_wbo fz L xs (by decide) (by decide) (by decide) (h (16, 17, [116, 114, 121]) (by decide)), xk_wbo fz L xs (by decide) (by decide) (by decide) (h (18, 19, [99, 97, 116, 99, 104]) (by decide)), xk_wbo fz L xs (by decide) (by decide) (by decide) (h (20, 21, [97, 108, 119, 97, 121, 115]) (by decide))⟩
theorem xk_all (fz : Bool) (L : Nat) (xs : Nat → Int32) : ∀ c ∈ xk_T.2.1, ∀ args, sx_cok xk_T (xk_W fz L xs) c args := by
  refine sx_main (fun c hc args => ?_) (xk_Wck fz L xs)
  have hc : c ∈ [xk_c_0] := hc
  have e : c = xk_c_0 := by simpa using hc
  subst e
  exact xk_scan_ok (hp := (xk_W fz L xs).2.1) (hs := (xk_W fz L xs).2.2) (HK_n fz L xs) (xk_oldHK fz L xs) args
/-! WHAT IS LEFT of a claim: a relation J of the two memories that every pair of calls keeps (printed by wip/tools/law.py) -/
theorem pt_sl (row : Nat → Int32) (sh : rf_S) (h : rf_H) : (pt_H row sh h).2.2.2 = h.2.2.2 := rfl
theorem K2_sl (fz : Bool) : (K2 fz).2.2.2 = 49191 := by
  have h := K2_ok fz
  rw [K2_eq fz] at h
  simp only [Option.map_some, Option.some.injEq, Prod.mk.injEq] at h
  exact h.2.2
theorem HK_sl (fz : Bool) (L : Nat) (xs : Nat → Int32) : (HK fz L xs).2.2.2 = 49191 := (pt_sl xs (.inr (.int, L)) (K2 fz)).trans (K2_sl fz)
theorem HK_go (fz : Bool) (L : Nat) (xs : Nat → Int32) {a ci : Nat} (h1 : 22 ≤ a) (h2 : a < 406) (h : shK.getD (a - 22) shD = .inl ci) : go (cx0 fz) (HK fz L xs).2 a ci := by
  refine ⟨h1, by omega, by rw [HK_n]; exact h2, ?_⟩
  rw [HK_shp fz L xs h1, K2_shp fz h1 h2]
  exact h
theorem HK_1 (fz : Bool) (L : Nat) (xs : Nat → Int32) : (HK fz L xs).2.1 1 = .inr (.int, L) := by
  unfold HK
  generalize K2 fz = h
  show va_up h.2.1 1 (.inr (.int, L)) 1 = _
  exact va_up_self h.2.1 1 (.inr (.int, L))
theorem pu_of (fz : Bool) {L : Nat} (xs : Nat → Int32) (hL : L ≤ 3072) {J : rf_M → Prop} (hJ : ∀ M, J M → ∀ k, M.1 1 k = xs k)
    (hp_13 : ∀ (a0 : Int32) (a1 : Int32) (a2 : Int32) (a3 : Int32) (a4 : Int32), lw_I (cx0 fz) (HK fz L xs).2 xs J false 13 128 [.int a0, .int a1, .int a2, .int a3, .int a4])
    (hp_15 : ∀ (a0 : Int32), lw_I (cx0 fz) (HK fz L xs).2 xs J false 15 129 [.int a0])
    (hp_16 : lw_I (cx0 fz) (HK fz L xs).2 xs J false 16 130 [])
    (hp_56 : lw_I (cx0 fz) (HK fz L xs).2 xs J false 56 152 [])
    (hp_57 : ∀ (a0 : Int32) (a1 : Int32), lw_I (cx0 fz) (HK fz L xs).2 xs J false 57 153 [.int a0, .int a1])
    (hp_59 : ∀ (a0 : Int32) (a1 : Int64), lw_I (cx0 fz) (HK fz L xs).2 xs J false 59 184 [.int a0, .long a1])
    (hp_79 : ∀ (a0 : Int32), lw_L (cx0 fz) (HK fz L xs).2 xs J false 79 185 [.int a0])
    (hp_80 : ∀ (a0 : Int32), lw_I (cx0 fz) (HK fz L xs).2 xs J false 80 186 [.int a0])
    (hp_81 : ∀ (a0 : Int32) (a1 : Int32), lw_I (cx0 fz) (HK fz L xs).2 xs J false 81 187 [.int a0, .int a1])
    (hp_84 : ∀ (a0 : Int32), lw_I (cx0 fz) (HK fz L xs).2 xs J false 84 154 [.int a0])
    (hp_108 : ∀ (a0 : Int64) (a1 : Int32), lw_I (cx0 fz) (HK fz L xs).2 xs J false 108 183 [.long a0, .int a1])
    (hp_109 : ∀ (a0 : Int32) (a1 : Int32), lw_I (cx0 fz) (HK fz L xs).2 xs J false 109 188 [.int a0, .int a1])
    (hp_111 : ∀ (a0 : Int32) (a1 : Int32), lw_L (cx0 fz) (HK fz L xs).2 xs J false 111 189 [.int a0, .int a1])
    (hp_112 : lw_I (cx0 fz) (HK fz L xs).2 xs J false 112 190 [])
    (hp_113 : lw_I (cx0 fz) (HK fz L xs).2 xs J false 113 191 [])
    (hp_114 : ∀ (a0 : Int32) (a1 : Int32), lw_I (cx0 fz) (HK fz L xs).2 xs J false 114 192 [.int a0, .int a1])
    (hp_117 : ∀ (a0 : Int32), lw_L (cx0 fz) (HK fz L xs).2 xs J false 117 193 [.int a0])
    (hp_118 : lw_I (cx0 fz) (HK fz L xs).2 xs J true 118 194 [])
    (hp_122 : lw_I (cx0 fz) (HK fz L xs).2 xs J false 122 197 []) (HJ0 : J (HK fz L xs).1) : pu_goal fz L xs := by
  have k := law_go (S := (HK fz L xs).2) (M0 := (HK fz L xs).1) fz xs hL hJ (HK_go fz L xs (by decide) (by decide) rfl) (HK_go fz L xs (by decide) (by decide) rfl) (HK_1 fz L xs) (by rw [HK_n]; decide) hp_13 hp_15 hp_16 hp_56 hp_57 hp_59 hp_79 hp_80 hp_81 hp_84 hp_108 hp_109 hp_111 hp_112 hp_113 hp_114 hp_117 hp_118 hp_122 HJ0
  have e : ((HK fz L xs).1, (HK fz L xs).2) = HK fz L xs := Prod.eta (HK fz L xs)
  rw [e] at k
  obtain ⟨n, r, hF, h1, h2, h3⟩ := law_made fz L xs k
  rw [h2] at h1
  exact ⟨n, hF, h1, by rw [h3, HK_n]; decide, by rw [h3, HK_sl]; decide⟩
/-! EACH CALL of the program ends; what the regions say holds on; it writes within its list (printed by wip/tools/pub.py) -/
theorem cl_run (fz : Bool) (L : Nat) (xs : Nat → Int32) {c : sxC} (hc : c ∈ xk_T.2.1) {args : List Value} {M : rf_M} (hin : sx_in (xk_W fz L xs) M) (hm : sx_mv c args ≤ 1900) (hfit : sx_fitl (xk_W fz L xs) c.2.1 args) : gx (cx0 fz) (2000, 80000) c.1 0 (lv_args 0 args) [] (M, (HK fz L xs).2) (fun v h' => ∃ M', h' = (M', (HK fz L xs).2) ∧ sx_in (xk_W fz L xs) M' ∧ sx_fr (xk_W fz L xs) c.2.2.2.1 M M' ∧ sx_pok (xk_W fz L xs) c.2.2.1 v) := by
  refine xk_all fz L xs c hc args M (2000, 80000) ⟨by show sx_mv c args ≤ 2000; omega, ?_⟩ hin hfit
  have e : xk_T.2.2.2 = 29 := rfl
  rw [e]
  show sx_mv c args * 29 + 30 ≤ 80000
  omega
theorem cl_22 (fz : Bool) (L : Nat) (xs : Nat → Int32) : sx_fits (xk_W fz L xs) (.inr (some (0, false))) (.ref 22) := ⟨some 22, rfl, ⟨Nat.le_refl _, by show 22 < (HK fz L xs).2.2.1; rw [HK_n]; decide, rfl⟩⟩
theorem cl_i (fz : Bool) (L : Nat) (xs : Nat → Int32) (x : Int32) : sx_fits (xk_W fz L xs) (.inl ((-2147483648), 2147483647)) (.int x) := ⟨x, rfl, (sx_rg x).1, (sx_rg x).2⟩
theorem cl_l (fz : Bool) (L : Nat) (xs : Nat → Int32) (x : Int64) : sx_fits (xk_W fz L xs) (.inr none) (.long x) := ⟨x, rfl⟩
theorem cl_feed (fz : Bool) (L : Nat) (xs : Nat → Int32) {M : rf_M} (hin : sx_in (xk_W fz L xs) M) (a0 : Int32) (a1 : Int32) (a2 : Int32) (a3 : Int32) (a4 : Int32) : gx (cx0 fz) (2000, 80000) 13 0 (lv_args 0 [.ref 22, .int a0, .int a1, .int a2, .int a3, .int a4]) [] (M, (HK fz L xs).2) (fun r h' => ∃ (z : Int32) (M' : rf_M), r = some (.int z) ∧ h' = (M', (HK fz L xs).2) ∧ sx_in (xk_W fz L xs) M' ∧ sx_fr (xk_W fz L xs) xk_c_1.2.2.2.1 M M') := by
  refine gx_mono (cl_run fz L xs (c := xk_c_1) (by simp [xk_T]) hin (Nat.le_of_ble_eq_true rfl) ⟨cl_22 fz L xs, cl_i fz L xs a0, cl_i fz L xs a1, cl_i fz L xs a2, cl_i fz L xs a3, cl_i fz L xs a4, trivial⟩) ?_
  rintro v h' ⟨M', rfl, h1, h2, h3⟩
  cases v with
  | none => exact h3.elim
  | some v => obtain ⟨z, rfl, -, -⟩ := h3; exact ⟨z, M', rfl, rfl, h1, h2⟩
theorem cl_end (fz : Bool) (L : Nat) (xs : Nat → Int32) {M : rf_M} (hin : sx_in (xk_W fz L xs) M) (a0 : Int32) : gx (cx0 fz) (2000, 80000) 15 0 (lv_args 0 [.ref 22, .int a0]) [] (M, (HK fz L xs).2) (fun r h' => ∃ (z : Int32) (M' : rf_M), r = some (.int z) ∧ h' = (M', (HK fz L xs).2) ∧ sx_in (xk_W fz L xs) M' ∧ sx_fr (xk_W fz L xs) xk_c_2.2.2.2.1 M M') := by
  refine gx_mono (cl_run fz L xs (c := xk_c_2) (by simp [xk_T]) hin (Nat.le_of_ble_eq_true rfl) ⟨cl_22 fz L xs, cl_i fz L xs a0, trivial⟩) ?_
  rintro v h' ⟨M', rfl, h1, h2, h3⟩
  cases v with
  | none => exact h3.elim
  | some v => obtain ⟨z, rfl, -, -⟩ := h3; exact ⟨z, M', rfl, rfl, h1, h2⟩
theorem cl_text (fz : Bool) (L : Nat) (xs : Nat → Int32) {M : rf_M} (hin : sx_in (xk_W fz L xs) M) : gx (cx0 fz) (2000, 80000) 16 0 (lv_args 0 [.ref 22]) [] (M, (HK fz L xs).2) (fun r h' => ∃ (z : Int32) (M' : rf_M), r = some (.int z) ∧ h' = (M', (HK fz L xs).2) ∧ sx_in (xk_W fz L xs) M' ∧ sx_fr (xk_W fz L xs) xk_c_3.2.2.2.1 M M') := by
  refine gx_mono (cl_run fz L xs (c := xk_c_3) (by simp [xk_T]) hin (Nat.le_of_ble_eq_true rfl) ⟨cl_22 fz L xs, trivial⟩) ?_
  rintro v h' ⟨M', rfl, h1, h2, h3⟩
  cases v with
  | none => exact h3.elim
  | some v => obtain ⟨z, rfl, -, -⟩ := h3; exact ⟨z, M', rfl, rfl, h1, h2⟩
theorem cl_place (fz : Bool) (L : Nat) (xs : Nat → Int32) {M : rf_M} (hin : sx_in (xk_W fz L xs) M) : gx (cx0 fz) (2000, 80000) 56 0 (lv_args 0 [.ref 22]) [] (M, (HK fz L xs).2) (fun r h' => ∃ (z : Int32) (M' : rf_M), r = some (.int z) ∧ h' = (M', (HK fz L xs).2) ∧ sx_in (xk_W fz L xs) M' ∧ sx_fr (xk_W fz L xs) xk_c_4.2.2.2.1 M M') := by
  refine gx_mono (cl_run fz L xs (c := xk_c_4) (by simp [xk_T]) hin (Nat.le_of_ble_eq_true rfl) ⟨cl_22 fz L xs, trivial⟩) ?_
  rintro v h' ⟨M', rfl, h1, h2, h3⟩
  cases v with
  | none => exact h3.elim
  | some v => obtain ⟨z, rfl, -, -⟩ := h3; exact ⟨z, M', rfl, rfl, h1, h2⟩
theorem cl_told (fz : Bool) (L : Nat) (xs : Nat → Int32) {M : rf_M} (hin : sx_in (xk_W fz L xs) M) (a0 : Int32) (a1 : Int32) : gx (cx0 fz) (2000, 80000) 57 0 (lv_args 0 [.ref 22, .int a0, .int a1]) [] (M, (HK fz L xs).2) (fun r h' => ∃ (z : Int32) (M' : rf_M), r = some (.int z) ∧ h' = (M', (HK fz L xs).2) ∧ sx_in (xk_W fz L xs) M' ∧ sx_fr (xk_W fz L xs) xk_c_5.2.2.2.1 M M') := by
  refine gx_mono (cl_run fz L xs (c := xk_c_5) (by simp [xk_T]) hin (Nat.le_of_ble_eq_true rfl) ⟨cl_22 fz L xs, cl_i fz L xs a0, cl_i fz L xs a1, trivial⟩) ?_
  rintro v h' ⟨M', rfl, h1, h2, h3⟩
  cases v with
  | none => exact h3.elim
  | some v => obtain ⟨z, rfl, -, -⟩ := h3; exact ⟨z, M', rfl, rfl, h1, h2⟩
theorem cl_put (fz : Bool) (L : Nat) (xs : Nat → Int32) {M : rf_M} (hin : sx_in (xk_W fz L xs) M) (a0 : Int32) (a1 : Int64) : gx (cx0 fz) (2000, 80000) 59 0 (lv_args 0 [.ref 22, .int a0, .long a1]) [] (M, (HK fz L xs).2) (fun r h' => ∃ (z : Int32) (M' : rf_M), r = some (.int z) ∧ h' = (M', (HK fz L xs).2) ∧ sx_in (xk_W fz L xs) M' ∧ sx_fr (xk_W fz L xs) xk_c_6.2.2.2.1 M M') := by
  refine gx_mono (cl_run fz L xs (c := xk_c_6) (by simp [xk_T]) hin (Nat.le_of_ble_eq_true rfl) ⟨cl_22 fz L xs, cl_i fz L xs a0, cl_l fz L xs a1, trivial⟩) ?_
  rintro v h' ⟨M', rfl, h1, h2, h3⟩
  cases v with
  | none => exact h3.elim
  | some v => obtain ⟨z, rfl, -, -⟩ := h3; exact ⟨z, M', rfl, rfl, h1, h2⟩
theorem cl_cell (fz : Bool) (L : Nat) (xs : Nat → Int32) {M : rf_M} (hin : sx_in (xk_W fz L xs) M) (a0 : Int32) : gx (cx0 fz) (2000, 80000) 79 0 (lv_args 0 [.ref 22, .int a0]) [] (M, (HK fz L xs).2) (fun r h' => ∃ (z : Int64) (M' : rf_M), r = some (.long z) ∧ h' = (M', (HK fz L xs).2) ∧ sx_in (xk_W fz L xs) M' ∧ sx_fr (xk_W fz L xs) xk_c_7.2.2.2.1 M M') := by
  refine gx_mono (cl_run fz L xs (c := xk_c_7) (by simp [xk_T]) hin (Nat.le_of_ble_eq_true rfl) ⟨cl_22 fz L xs, cl_i fz L xs a0, trivial⟩) ?_
  rintro v h' ⟨M', rfl, h1, h2, h3⟩
  cases v with
  | none => exact h3.elim
  | some v => obtain ⟨z, rfl⟩ := h3; exact ⟨z, M', rfl, rfl, h1, h2⟩
theorem cl_version (fz : Bool) (L : Nat) (xs : Nat → Int32) {M : rf_M} (hin : sx_in (xk_W fz L xs) M) (a0 : Int32) : gx (cx0 fz) (2000, 80000) 80 0 (lv_args 0 [.ref 22, .int a0]) [] (M, (HK fz L xs).2) (fun r h' => ∃ (z : Int32) (M' : rf_M), r = some (.int z) ∧ h' = (M', (HK fz L xs).2) ∧ sx_in (xk_W fz L xs) M' ∧ sx_fr (xk_W fz L xs) xk_c_8.2.2.2.1 M M') := by
  refine gx_mono (cl_run fz L xs (c := xk_c_8) (by simp [xk_T]) hin (Nat.le_of_ble_eq_true rfl) ⟨cl_22 fz L xs, cl_i fz L xs a0, trivial⟩) ?_
  rintro v h' ⟨M', rfl, h1, h2, h3⟩
  cases v with
  | none => exact h3.elim
  | some v => obtain ⟨z, rfl, -, -⟩ := h3; exact ⟨z, M', rfl, rfl, h1, h2⟩
theorem cl_add (fz : Bool) (L : Nat) (xs : Nat → Int32) {M : rf_M} (hin : sx_in (xk_W fz L xs) M) (a0 : Int32) (a1 : Int32) : gx (cx0 fz) (2000, 80000) 81 0 (lv_args 0 [.ref 22, .int a0, .int a1]) [] (M, (HK fz L xs).2) (fun r h' => ∃ (z : Int32) (M' : rf_M), r = some (.int z) ∧ h' = (M', (HK fz L xs).2) ∧ sx_in (xk_W fz L xs) M' ∧ sx_fr (xk_W fz L xs) xk_c_9.2.2.2.1 M M') := by
  refine gx_mono (cl_run fz L xs (c := xk_c_9) (by simp [xk_T]) hin (Nat.le_of_ble_eq_true rfl) ⟨cl_22 fz L xs, cl_i fz L xs a0, cl_i fz L xs a1, trivial⟩) ?_
  rintro v h' ⟨M', rfl, h1, h2, h3⟩
  cases v with
  | none => exact h3.elim
  | some v => obtain ⟨z, rfl, -, -⟩ := h3; exact ⟨z, M', rfl, rfl, h1, h2⟩
theorem cl_turn (fz : Bool) (L : Nat) (xs : Nat → Int32) {M : rf_M} (hin : sx_in (xk_W fz L xs) M) (a0 : Int32) : gx (cx0 fz) (2000, 80000) 84 0 (lv_args 0 [.ref 22, .int a0]) [] (M, (HK fz L xs).2) (fun r h' => ∃ (z : Int32) (M' : rf_M), r = some (.int z) ∧ h' = (M', (HK fz L xs).2) ∧ sx_in (xk_W fz L xs) M' ∧ sx_fr (xk_W fz L xs) xk_c_10.2.2.2.1 M M') := by
  refine gx_mono (cl_run fz L xs (c := xk_c_10) (by simp [xk_T]) hin (Nat.le_of_ble_eq_true rfl) ⟨cl_22 fz L xs, cl_i fz L xs a0, trivial⟩) ?_
  rintro v h' ⟨M', rfl, h1, h2, h3⟩
  cases v with
  | none => exact h3.elim
  | some v => obtain ⟨z, rfl, -, -⟩ := h3; exact ⟨z, M', rfl, rfl, h1, h2⟩
theorem cl_play (fz : Bool) (L : Nat) (xs : Nat → Int32) {M : rf_M} (hin : sx_in (xk_W fz L xs) M) (a0 : Int64) (a1 : Int32) : gx (cx0 fz) (2000, 80000) 108 0 (lv_args 0 [.ref 22, .long a0, .int a1]) [] (M, (HK fz L xs).2) (fun r h' => ∃ (z : Int32) (M' : rf_M), r = some (.int z) ∧ h' = (M', (HK fz L xs).2) ∧ sx_in (xk_W fz L xs) M' ∧ sx_fr (xk_W fz L xs) xk_c_11.2.2.2.1 M M') := by
  refine gx_mono (cl_run fz L xs (c := xk_c_11) (by simp [xk_T]) hin (Nat.le_of_ble_eq_true rfl) ⟨cl_22 fz L xs, cl_l fz L xs a0, cl_i fz L xs a1, trivial⟩) ?_
  rintro v h' ⟨M', rfl, h1, h2, h3⟩
  cases v with
  | none => exact h3.elim
  | some v => obtain ⟨z, rfl, -, -⟩ := h3; exact ⟨z, M', rfl, rfl, h1, h2⟩
theorem cl_client (fz : Bool) (L : Nat) (xs : Nat → Int32) {M : rf_M} (hin : sx_in (xk_W fz L xs) M) (a0 : Int32) (a1 : Int32) : gx (cx0 fz) (2000, 80000) 109 0 (lv_args 0 [.ref 22, .int a0, .int a1]) [] (M, (HK fz L xs).2) (fun r h' => ∃ (z : Int32) (M' : rf_M), r = some (.int z) ∧ h' = (M', (HK fz L xs).2) ∧ sx_in (xk_W fz L xs) M' ∧ sx_fr (xk_W fz L xs) xk_c_12.2.2.2.1 M M') := by
  refine gx_mono (cl_run fz L xs (c := xk_c_12) (by simp [xk_T]) hin (Nat.le_of_ble_eq_true rfl) ⟨cl_22 fz L xs, cl_i fz L xs a0, cl_i fz L xs a1, trivial⟩) ?_
  rintro v h' ⟨M', rfl, h1, h2, h3⟩
  cases v with
  | none => exact h3.elim
  | some v => obtain ⟨z, rfl, -, -⟩ := h3; exact ⟨z, M', rfl, rfl, h1, h2⟩
theorem cl_sees (fz : Bool) (L : Nat) (xs : Nat → Int32) {M : rf_M} (hin : sx_in (xk_W fz L xs) M) (a0 : Int32) (a1 : Int32) : gx (cx0 fz) (2000, 80000) 111 0 (lv_args 0 [.ref 22, .int a0, .int a1]) [] (M, (HK fz L xs).2) (fun r h' => ∃ (z : Int64) (M' : rf_M), r = some (.long z) ∧ h' = (M', (HK fz L xs).2) ∧ sx_in (xk_W fz L xs) M' ∧ sx_fr (xk_W fz L xs) xk_c_13.2.2.2.1 M M') := by
  refine gx_mono (cl_run fz L xs (c := xk_c_13) (by simp [xk_T]) hin (Nat.le_of_ble_eq_true rfl) ⟨cl_22 fz L xs, cl_i fz L xs a0, cl_i fz L xs a1, trivial⟩) ?_
  rintro v h' ⟨M', rfl, h1, h2, h3⟩
  cases v with
  | none => exact h3.elim
  | some v => obtain ⟨z, rfl⟩ := h3; exact ⟨z, M', rfl, rfl, h1, h2⟩
theorem cl_rules (fz : Bool) (L : Nat) (xs : Nat → Int32) {M : rf_M} (hin : sx_in (xk_W fz L xs) M) : gx (cx0 fz) (2000, 80000) 112 0 (lv_args 0 [.ref 22]) [] (M, (HK fz L xs).2) (fun r h' => ∃ (z : Int32) (M' : rf_M), r = some (.int z) ∧ h' = (M', (HK fz L xs).2) ∧ sx_in (xk_W fz L xs) M' ∧ sx_fr (xk_W fz L xs) xk_c_14.2.2.2.1 M M') := by
  refine gx_mono (cl_run fz L xs (c := xk_c_14) (by simp [xk_T]) hin (Nat.le_of_ble_eq_true rfl) ⟨cl_22 fz L xs, trivial⟩) ?_
  rintro v h' ⟨M', rfl, h1, h2, h3⟩
  cases v with
  | none => exact h3.elim
  | some v => obtain ⟨z, rfl, -, -⟩ := h3; exact ⟨z, M', rfl, rfl, h1, h2⟩
theorem cl_rows (fz : Bool) (L : Nat) (xs : Nat → Int32) {M : rf_M} (hin : sx_in (xk_W fz L xs) M) : gx (cx0 fz) (2000, 80000) 113 0 (lv_args 0 [.ref 22]) [] (M, (HK fz L xs).2) (fun r h' => ∃ (z : Int32) (M' : rf_M), r = some (.int z) ∧ h' = (M', (HK fz L xs).2) ∧ sx_in (xk_W fz L xs) M' ∧ sx_fr (xk_W fz L xs) xk_c_15.2.2.2.1 M M') := by
  refine gx_mono (cl_run fz L xs (c := xk_c_15) (by simp [xk_T]) hin (Nat.le_of_ble_eq_true rfl) ⟨cl_22 fz L xs, trivial⟩) ?_
  rintro v h' ⟨M', rfl, h1, h2, h3⟩
  cases v with
  | none => exact h3.elim
  | some v => obtain ⟨z, rfl, -, -⟩ := h3; exact ⟨z, M', rfl, rfl, h1, h2⟩
theorem cl_row (fz : Bool) (L : Nat) (xs : Nat → Int32) {M : rf_M} (hin : sx_in (xk_W fz L xs) M) (a0 : Int32) (a1 : Int32) : gx (cx0 fz) (2000, 80000) 114 0 (lv_args 0 [.ref 22, .int a0, .int a1]) [] (M, (HK fz L xs).2) (fun r h' => ∃ (z : Int32) (M' : rf_M), r = some (.int z) ∧ h' = (M', (HK fz L xs).2) ∧ sx_in (xk_W fz L xs) M' ∧ sx_fr (xk_W fz L xs) xk_c_16.2.2.2.1 M M') := by
  refine gx_mono (cl_run fz L xs (c := xk_c_16) (by simp [xk_T]) hin (Nat.le_of_ble_eq_true rfl) ⟨cl_22 fz L xs, cl_i fz L xs a0, cl_i fz L xs a1, trivial⟩) ?_
  rintro v h' ⟨M', rfl, h1, h2, h3⟩
  cases v with
  | none => exact h3.elim
  | some v => obtain ⟨z, rfl, -, -⟩ := h3; exact ⟨z, M', rfl, rfl, h1, h2⟩
theorem cl_value (fz : Bool) (L : Nat) (xs : Nat → Int32) {M : rf_M} (hin : sx_in (xk_W fz L xs) M) (a0 : Int32) : gx (cx0 fz) (2000, 80000) 117 0 (lv_args 0 [.ref 22, .int a0]) [] (M, (HK fz L xs).2) (fun r h' => ∃ (z : Int64) (M' : rf_M), r = some (.long z) ∧ h' = (M', (HK fz L xs).2) ∧ sx_in (xk_W fz L xs) M' ∧ sx_fr (xk_W fz L xs) xk_c_17.2.2.2.1 M M') := by
  refine gx_mono (cl_run fz L xs (c := xk_c_17) (by simp [xk_T]) hin (Nat.le_of_ble_eq_true rfl) ⟨cl_22 fz L xs, cl_i fz L xs a0, trivial⟩) ?_
  rintro v h' ⟨M', rfl, h1, h2, h3⟩
  cases v with
  | none => exact h3.elim
  | some v => obtain ⟨z, rfl⟩ := h3; exact ⟨z, M', rfl, rfl, h1, h2⟩
theorem cl_replays (fz : Bool) (L : Nat) (xs : Nat → Int32) {M : rf_M} (hin : sx_in (xk_W fz L xs) M) : gx (cx0 fz) (2000, 80000) 118 0 (lv_args 0 [.ref 22]) [] (M, (HK fz L xs).2) (fun r h' => ∃ (z : Int32) (M' : rf_M), r = some (.int z) ∧ h' = (M', (HK fz L xs).2) ∧ sx_in (xk_W fz L xs) M' ∧ sx_fr (xk_W fz L xs) xk_c_18.2.2.2.1 M M') := by
  refine gx_mono (cl_run fz L xs (c := xk_c_18) (by simp [xk_T]) hin (Nat.le_of_ble_eq_true rfl) ⟨cl_22 fz L xs, trivial⟩) ?_
  rintro v h' ⟨M', rfl, h1, h2, h3⟩
  cases v with
  | none => exact h3.elim
  | some v => obtain ⟨z, rfl, -, -⟩ := h3; exact ⟨z, M', rfl, rfl, h1, h2⟩
theorem cl_clear (fz : Bool) (L : Nat) (xs : Nat → Int32) {M : rf_M} (hin : sx_in (xk_W fz L xs) M) : gx (cx0 fz) (2000, 80000) 122 0 (lv_args 0 [.ref 22]) [] (M, (HK fz L xs).2) (fun r h' => ∃ (z : Int32) (M' : rf_M), r = some (.int z) ∧ h' = (M', (HK fz L xs).2) ∧ sx_in (xk_W fz L xs) M' ∧ sx_fr (xk_W fz L xs) xk_c_19.2.2.2.1 M M') := by
  refine gx_mono (cl_run fz L xs (c := xk_c_19) (by simp [xk_T]) hin (Nat.le_of_ble_eq_true rfl) ⟨cl_22 fz L xs, trivial⟩) ?_
  rintro v h' ⟨M', rfl, h1, h2, h3⟩
  cases v with
  | none => exact h3.elim
  | some v => obtain ⟨z, rfl, -, -⟩ := h3; exact ⟨z, M', rfl, rfl, h1, h2⟩
/-! THE PARSER: its state and its small methods -/
abbrev tK : Type := List (Int32 × Nat × Int32)
/-- what stands at place i, and its number -/
def kd (T : tK) (i : Nat) : Int32 := match T[i]? with
  | some e => e.1
  | none => 0
def nb (T : tK) (i : Nat) : Int32 := match T[i]? with
  | some e => e.2.2
  | none => 0
/-- place, in a rule, statements, unaries, deepest, no fault so far -/
abbrev pS : Type := Nat × Bool × Nat × Nat × Nat × Bool
def p_bad (s : pS) : pS := (s.1, s.2.1, s.2.2.1, s.2.2.2.1, s.2.2.2.2.1, false)
def p_adv (T : tK) (s : pS) : pS := (if s.1 < T.length then s.1 + 1 else s.1, s.2)
def p_is (T : tK) (t : Int32) (s : pS) : Bool := s.2.2.2.2.2 && decide (kd T s.1 = t)
def p_ex (T : tK) (t : Int32) (s : pS) : pS := if p_is T t s then p_adv T s else p_bad s
/-- what stays: shapes, references, tokens, the program that is made -/
def pz_S (fz : Bool) (S : gS) (p : Nat) (T : tK) (M : rf_M) : Prop := (go (cx0 fz) S 169 2 ∧ sc_S fz S ∧ go (cx0 fz) S p 1 ∧ 25 ≤ p ∧ p + 11 ≤ 168 ∧ (∀ k, 1 ≤ k → k ≤ 9 → ga (cx0 fz) S (p + k) .int 40) ∧ (∀ k, 10 ≤ k → k ≤ 11 → ga (cx0 fz) S (p + k) .int 160)) ∧ (M.2.2 169 0 = some 170 ∧ M.2.2 169 1 = some p ∧ M.2.2 170 0 = some 171 ∧ M.2.2 170 1 = some 172 ∧ M.2.2 170 2 = some 173 ∧ ∀ k, 5 ≤ k → k ≤ 15 → M.2.2 p k = some (p + (k - 4))) ∧ T.length ≤ 800 ∧ M.1 170 3 = nI T.length ∧ ∀ i, i ≤ T.length → M.1 171 i = kd T i ∧ (∃ x, x ≤ 800 ∧ M.1 172 i = nI x) ∧ M.1 173 i = nb T i
def pz (fz : Bool) (S : gS) (p : Nat) (T : tK) (M : rf_M) (s : pS) : Prop := pz_S fz S p T M ∧ (M.1 169 2 = nI s.1 ∧ s.1 ≤ T.length) ∧ M.1 169 4 = bI s.2.1 ∧ (M.1 p 0 = nI s.2.2.1 ∧ s.2.2.1 ≤ 40) ∧ (M.1 p 1 = nI s.2.2.2.1 ∧ s.2.2.2.1 ≤ 60) ∧ (M.1 p 2 = nI s.2.2.2.2.1 ∧ s.2.2.2.2.1 ≤ 8) ∧ (∃ cc, cc ≤ 160 ∧ M.1 p 3 = nI cc) ∧ decide (M.1 169 3 = -1) = s.2.2.2.2.2
/-- nothing but the parser's slots and the program has changed -/
def pz_fr (p : Nat) (M M' : rf_M) : Prop := (∀ a k, ¬ (p ≤ a ∧ a ≤ p + 11) → ¬ (a = 169 ∧ (k = 2 ∨ k = 3 ∨ k = 4)) → M'.1 a k = M.1 a k) ∧ M'.2 = M.2
theorem pz_fr.rfl' (p : Nat) (M : rf_M) : pz_fr p M M := ⟨fun _ _ _ _ => rfl, rfl⟩
theorem pz_fr.trans {p : Nat} {M M' M'' : rf_M} (h : pz_fr p M M') (h' : pz_fr p M' M'') : pz_fr p M M'' := ⟨fun a k h1 h2 => (h'.1 a k h1 h2).trans (h.1 a k h1 h2), h'.2.trans h.2⟩
theorem pz_fr.wi {p : Nat} {M M' : rf_M} {a k : Nat} {x : Int32} (h : pz_fr p M M') (ha : (p ≤ a ∧ a ≤ p + 11) ∨ (a = 169 ∧ (k = 2 ∨ k = 3 ∨ k = 4))) : pz_fr p M (rf_wi M' a k x) := by
  refine ⟨fun a' k' h1 h2 => ?_, h.2⟩
  rw [rf_wi_of _ _ (by omega)]
  exact h.1 a' k' h1 h2
section PZ
variable {fz : Bool} {S : gS} {p : Nat} {T : tK} {M M' : rf_M} {s : pS}
theorem pz_S.fr (h : pz_S fz S p T M) (hf : pz_fr p M M') : pz_S fz S p T M' := by
  obtain ⟨h1, h2, h3, h4, h5⟩ := h
  have hp : p + 11 ≤ 168 := h1.2.2.2.2.1
  have e2 : M'.2.2 = M.2.2 := by rw [hf.2]
  refine ⟨h1, by rw [e2]; exact h2, h3, ?_, fun i hi => ?_⟩
  · rw [hf.1 170 3 (by omega) (by omega)]; exact h4
  · rw [hf.1 171 i (by omega) (by omega), hf.1 172 i (by omega) (by omega), hf.1 173 i (by omega) (by omega)]
    exact h5 i hi
theorem pz.at' (h : pz fz S p T M s) {i : Nat} (hi : i ≤ T.length) : pz fz S p T (rf_wi M 169 2 (nI i)) (i, s.2) := by
  obtain ⟨h0, h1, h2, h3, h4, h5, ⟨cc, h6, h7⟩, h8⟩ := h
  have hp : p + 11 ≤ 168 := h0.1.2.2.2.2.1
  have hf : pz_fr p M (rf_wi M 169 2 (nI i)) := (pz_fr.rfl' p M).wi (by omega)
  refine ⟨h0.fr hf, ⟨rf_wi_at _ _ _ _, hi⟩, ?_, ⟨?_, h3.2⟩, ⟨?_, h4.2⟩, ⟨?_, h5.2⟩, ⟨cc, h6, ?_⟩, ?_⟩
  · rw [rf_wi_of _ _ (by omega)]; exact h2
  · rw [rf_wi_of _ _ (by omega)]; exact h3.1
  · rw [rf_wi_of _ _ (by omega)]; exact h4.1
  · rw [rf_wi_of _ _ (by omega)]; exact h5.1
  · rw [rf_wi_of _ _ (by omega)]; exact h7
  · rw [rf_wi_of _ _ (by omega)]; exact h8
theorem pz.bad (h : pz fz S p T M s) {x : Int32} (hx : ¬ x = -1) : pz fz S p T (rf_wi M 169 3 x) (p_bad s) := by
  obtain ⟨h0, h1, h2, h3, h4, h5, ⟨cc, h6, h7⟩, h8⟩ := h
  have hp : p + 11 ≤ 168 := h0.1.2.2.2.2.1
  have hf : pz_fr p M (rf_wi M 169 3 x) := (pz_fr.rfl' p M).wi (by omega)
  refine ⟨h0.fr hf, ⟨?_, h1.2⟩, ?_, ⟨?_, h3.2⟩, ⟨?_, h4.2⟩, ⟨?_, h5.2⟩, ⟨cc, h6, ?_⟩, ?_⟩
  · rw [rf_wi_of _ _ (by omega)]; exact h1.1
  · rw [rf_wi_of _ _ (by omega)]; exact h2
  · rw [rf_wi_of _ _ (by omega)]; exact h3.1
  · rw [rf_wi_of _ _ (by omega)]; exact h4.1
  · rw [rf_wi_of _ _ (by omega)]; exact h5.1
  · rw [rf_wi_of _ _ (by omega)]; exact h7
  · rw [rf_wi_at]; exact decide_eq_false hx
theorem pz.un (h : pz fz S p T M s) (hu : s.2.2.2.1 < 60) : pz fz S p T (rf_wi M p 1 (nI (s.2.2.2.1 + 1))) (s.1, s.2.1, s.2.2.1, s.2.2.2.1 + 1, s.2.2.2.2) := by
  obtain ⟨h0, h1, h2, h3, h4, h5, ⟨cc, h6, h7⟩, h8⟩ := h
  have hp : p + 11 ≤ 168 := h0.1.2.2.2.2.1
  have hf : pz_fr p M (rf_wi M p 1 (nI (s.2.2.2.1 + 1))) := (pz_fr.rfl' p M).wi (by omega)
  refine ⟨h0.fr hf, ⟨?_, h1.2⟩, ?_, ⟨?_, h3.2⟩, ⟨rf_wi_at _ _ _ _, hu⟩, ⟨?_, h5.2⟩, ⟨cc, h6, ?_⟩, ?_⟩
  · rw [rf_wi_of _ _ (by omega)]; exact h1.1
  · rw [rf_wi_of _ _ (by omega)]; exact h2
  · rw [rf_wi_of _ _ (by omega)]; exact h3.1
  · rw [rf_wi_of _ _ (by omega)]; exact h5.1
  · rw [rf_wi_of _ _ (by omega)]; exact h7
  · rw [rf_wi_of _ _ (by omega)]; exact h8
/-- the program's code changes nothing of this -/
theorem pz.cc (h : pz fz S p T M s) {a k : Nat} {x : Int32} (ha : p + 1 ≤ a ∧ a ≤ p + 11) : pz fz S p T (rf_wi M a k x) s := by
  obtain ⟨h0, h1, h2, h3, h4, h5, ⟨cc, h6, h7⟩, h8⟩ := h
  have hp : p + 11 ≤ 168 := h0.1.2.2.2.2.1
  have hf : pz_fr p M (rf_wi M a k x) := (pz_fr.rfl' p M).wi (by omega)
  refine ⟨h0.fr hf, ⟨?_, h1.2⟩, ?_, ⟨?_, h3.2⟩, ⟨?_, h4.2⟩, ⟨?_, h5.2⟩, ⟨cc, h6, ?_⟩, ?_⟩
  · rw [rf_wi_of _ _ (by omega)]; exact h1.1
  · rw [rf_wi_of _ _ (by omega)]; exact h2
  · rw [rf_wi_of _ _ (by omega)]; exact h3.1
  · rw [rf_wi_of _ _ (by omega)]; exact h4.1
  · rw [rf_wi_of _ _ (by omega)]; exact h5.1
  · rw [rf_wi_of _ _ (by omega)]; exact h7
  · rw [rf_wi_of _ _ (by omega)]; exact h8
theorem pz.cc3 (h : pz fz S p T M s) {c : Nat} (hc : c ≤ 160) : pz fz S p T (rf_wi M p 3 (nI c)) s := by
  obtain ⟨h0, h1, h2, h3, h4, h5, ⟨cc, h6, h7⟩, h8⟩ := h
  have hp : p + 11 ≤ 168 := h0.1.2.2.2.2.1
  have hf : pz_fr p M (rf_wi M p 3 (nI c)) := (pz_fr.rfl' p M).wi (by omega)
  refine ⟨h0.fr hf, ⟨?_, h1.2⟩, ?_, ⟨?_, h3.2⟩, ⟨?_, h4.2⟩, ⟨?_, h5.2⟩, ⟨c, hc, rf_wi_at _ _ _ _⟩, ?_⟩
  · rw [rf_wi_of _ _ (by omega)]; exact h1.1
  · rw [rf_wi_of _ _ (by omega)]; exact h2
  · rw [rf_wi_of _ _ (by omega)]; exact h3.1
  · rw [rf_wi_of _ _ (by omega)]; exact h4.1
  · rw [rf_wi_of _ _ (by omega)]; exact h5.1
  · rw [rf_wi_of _ _ (by omega)]; exact h8
/-- what a method of the parser does: it comes to f s, and changes nothing else -/
def pdo (fz : Bool) (S : gS) (p : Nat) (T : tK) (d : Nat × Nat) (j : Nat) (args : List Value) (f : pS → pS) : Prop := ∀ (M : rf_M) (s : pS), pz fz S p T M s → gx (cx0 fz) d j 0 (lv_args 0 (.ref 169 :: args)) [] (M, S) (fun r h' => r = none ∧ ∃ M', h' = (M', S) ∧ pz fz S p T M' (f s) ∧ pz_fr p M M')
theorem p_faulty (h : pz fz S p T M s) : gx (cx0 fz) (0, 0) 36 0 [(0, .ref 169)] [] (M, S) (fun r h' => r = some (.int (bI (!s.2.2.2.2.2))) ∧ h' = (M, S)) := by
  have hok := h.2.2.2.2.2.2.2
  refine g1 (n := 1) rfl rfl rfl rfl ?_
  refine m_gf rfl h.1.1.1 rfl (v := .int (M.1 169 3)) rfl ?_
  refine g1 (n := 1) rfl rfl rfl rfl ?_
  refine g_ic rfl (fun c => ?_) (fun c => ?_)
  · have c : M.1 169 3 = -1 := of_decide_eq_true c
    refine g1 (n := 1) rfl rfl rfl rfl ?_
    refine gx_ret rfl rfl ⟨?_, rfl⟩
    rw [← hok, decide_eq_true c]; rfl
  · have c : ¬ M.1 169 3 = -1 := fun z => c (decide_eq_true z)
    refine g1 (n := 1) rfl rfl rfl rfl ?_
    refine g3 rfl rfl rfl ?_
    refine gx_ret rfl rfl ⟨?_, rfl⟩
    rw [← hok, decide_eq_false c]; rfl
theorem p_refuse : pdo fz S p T (0, 0) 42 [] p_bad := by
  intro M s h
  have h' := h
  obtain ⟨h0, h1, h2, h3, h4, h5, h6, h8⟩ := h
  obtain ⟨hh, ⟨r0, r1, r2, r3, r4, r5⟩, hT, hl, hrow⟩ := h0
  obtain ⟨x, hx, ex⟩ := (hrow s.1 h1.2).2.1
  refine g1 (n := 1) rfl rfl rfl rfl ?_
  refine m_gf rfl hh.1 rfl (v := .int (M.1 169 3)) rfl ?_
  refine g1 (n := 1) rfl rfl rfl rfl ?_
  refine g_ic rfl (fun c => ?_) (fun c => ?_)
  · have c : ¬ M.1 169 3 = -1 := fun z => (rf_cc_iff _ _ .ne).mp c (by rw [z]; rfl)
    refine gx_ret rfl rfl ⟨rfl, M, rfl, ?_, pz_fr.rfl' p M⟩
    have e : p_bad s = s := by
      unfold p_bad
      rw [← (h8.symm.trans (decide_eq_false c))]
    rw [e]; exact h'
  · refine g1 (n := 1) rfl rfl rfl rfl ?_
    refine g1 (n := 1) rfl rfl rfl rfl ?_
    refine m_gf rfl hh.1 rfl (v := .ref 170) (by show va_rf (M.2.2 169 0) = _; rw [r0]; rfl) ?_
    refine m_gf rfl hh.2.1.1 rfl (v := .ref 172) (by show va_rf (M.2.2 170 1) = _; rw [r3]; rfl) ?_
    refine g1 (n := 1) rfl rfl rfl rfl ?_
    refine m_gf rfl hh.1 rfl (v := .int (nI s.1)) (by show Value.int (M.1 169 2) = _; rw [h1.1]) ?_
    refine m_il rfl hh.2.1.2.2.1.oa (nI_int (by omega)) (by omega) ?_
    rw [ex]
    refine m_pf rfl hh.1 rfl (M' := rf_wi M 169 3 (nI x)) rfl ?_
    have hne : ¬ nI x = -1 := fun z => by
      have := nI_int (k := x) (by omega)
      rw [z] at this
      have e1 : (-1 : Int32).toInt = -1 := by decide
      omega
    exact gx_ret rfl rfl ⟨rfl, _, rfl, h'.bad hne, (pz_fr.rfl' p M).wi (by omega)⟩
theorem p_token (h : pz fz S p T M s) : gx (cx0 fz) (0, 0) 39 0 [(0, .ref 169)] [] (M, S) (fun r h' => r = some (.int (kd T s.1)) ∧ h' = (M, S)) := by
  obtain ⟨h0, h1, h2, h3, h4, h5, h6, h8⟩ := h
  obtain ⟨hh, ⟨r0, r1, r2, r3, r4, r5⟩, hT, hl, hrow⟩ := h0
  refine g1 (n := 1) rfl rfl rfl rfl ?_
  refine m_gf rfl hh.1 rfl (v := .ref 170) (by show va_rf (M.2.2 169 0) = _; rw [r0]; rfl) ?_
  refine m_gf rfl hh.2.1.1 rfl (v := .ref 171) (by show va_rf (M.2.2 170 0) = _; rw [r2]; rfl) ?_
  refine g1 (n := 1) rfl rfl rfl rfl ?_
  refine m_gf rfl hh.1 rfl (v := .int (nI s.1)) (by show Value.int (M.1 169 2) = _; rw [h1.1]) ?_
  refine m_il rfl hh.2.1.2.1.oa (nI_int (by omega)) (by omega) ?_
  rw [(hrow s.1 h1.2).1]
  exact gx_ret rfl rfl ⟨rfl, rfl⟩
theorem p_number (h : pz fz S p T M s) : gx (cx0 fz) (0, 0) 43 0 [(0, .ref 169)] [] (M, S) (fun r h' => r = some (.int (nb T s.1)) ∧ h' = (M, S)) := by
  obtain ⟨h0, h1, h2, h3, h4, h5, h6, h8⟩ := h
  obtain ⟨hh, ⟨r0, r1, r2, r3, r4, r5⟩, hT, hl, hrow⟩ := h0
  refine g1 (n := 1) rfl rfl rfl rfl ?_
  refine m_gf rfl hh.1 rfl (v := .ref 170) (by show va_rf (M.2.2 169 0) = _; rw [r0]; rfl) ?_
  refine m_gf rfl hh.2.1.1 rfl (v := .ref 173) (by show va_rf (M.2.2 170 2) = _; rw [r4]; rfl) ?_
  refine g1 (n := 1) rfl rfl rfl rfl ?_
  refine m_gf rfl hh.1 rfl (v := .int (nI s.1)) (by show Value.int (M.1 169 2) = _; rw [h1.1]) ?_
  refine m_il rfl hh.2.1.2.2.2.1.oa (nI_int (by omega)) (by omega) ?_
  rw [(hrow s.1 h1.2).2.2]
  exact gx_ret rfl rfl ⟨rfl, rfl⟩
theorem p_advance : pdo fz S p T (0, 0) 44 [] (p_adv T) := by
  intro M s h
  have h' := h
  obtain ⟨h0, h1, h2, h3, h4, h5, h6, h8⟩ := h
  obtain ⟨hh, ⟨r0, r1, r2, r3, r4, r5⟩, hT, hl, hrow⟩ := h0
  refine g1 (n := 1) rfl rfl rfl rfl ?_
  refine m_gf rfl hh.1 rfl (v := .int (nI s.1)) (by show Value.int (M.1 169 2) = _; rw [h1.1]) ?_
  refine g1 (n := 1) rfl rfl rfl rfl ?_
  refine m_gf rfl hh.1 rfl (v := .ref 170) (by show va_rf (M.2.2 169 0) = _; rw [r0]; rfl) ?_
  refine m_gf rfl hh.2.1.1 rfl (v := .int (nI T.length)) (by show Value.int (M.1 170 3) = _; rw [hl]) ?_
  refine g_ic rfl (fun c => ?_) (fun c => ?_)
  · have c : (nI T.length).toInt ≤ (nI s.1).toInt := (rf_cc_iff _ _ .ge).mp c
    rw [nI_int (by omega), nI_int (by omega)] at c
    refine gx_ret rfl rfl ⟨rfl, M, rfl, ?_, pz_fr.rfl' p M⟩
    have e : p_adv T s = s := by
      unfold p_adv
      rw [if_neg (by omega)]
    rw [e]; exact h'
  · have c : ¬ (nI T.length).toInt ≤ (nI s.1).toInt := fun z => c ((rf_cc_iff _ _ .ge).mpr z)
    rw [nI_int (by omega), nI_int (by omega)] at c
    refine g1 (n := 1) rfl rfl rfl rfl ?_
    refine g0 rfl rfl rfl ?_
    refine m_gf rfl hh.1 rfl (v := .int (nI s.1)) (by show Value.int (M.1 169 2) = _; rw [h1.1]) ?_
    refine g1 (n := 1) rfl rfl rfl rfl ?_
    refine g0 rfl rfl rfl ?_
    refine m_pf rfl hh.1 rfl (M' := rf_wi M 169 2 (nI s.1 + Int32.ofInt 1)) rfl ?_
    rw [nI_suc (by omega)]
    refine gx_ret rfl rfl ⟨rfl, _, rfl, ?_, (pz_fr.rfl' p M).wi (by omega)⟩
    unfold p_adv
    rw [if_pos (by omega)]
    exact h'.at' (by omega)
theorem p_isAt (h : pz fz S p T M s) {t : Int32} : gx (cx0 fz) (0, 0) 37 0 [(0, .ref 169), (1, .int t)] [] (M, S) (fun r h' => r = some (.int (bI (p_is T t s))) ∧ h' = (M, S)) := by
  obtain ⟨h0, h1, h2, h3, h4, h5, h6, h8⟩ := h
  obtain ⟨hh, ⟨r0, r1, r2, r3, r4, r5⟩, hT, hl, hrow⟩ := h0
  refine g1 (n := 1) rfl rfl rfl rfl ?_
  refine m_gf rfl hh.1 rfl (v := .int (M.1 169 3)) rfl ?_
  refine g1 (n := 1) rfl rfl rfl rfl ?_
  refine g_ic rfl (fun c => ?_) (fun c => ?_)
  · have c : ¬ M.1 169 3 = -1 := fun z => (rf_cc_iff _ _ .ne).mp c (by rw [z]; rfl)
    refine g1 (n := 1) rfl rfl rfl rfl ?_
    refine gx_ret rfl rfl ⟨?_, rfl⟩
    unfold p_is
    rw [← h8, decide_eq_false c]; rfl
  · have c : M.1 169 3 = -1 := Classical.byContradiction fun z => c ((rf_cc_iff _ _ .ne).mpr (fun w => z (Int32.toInt_inj.mp w)))
    refine g1 (n := 1) rfl rfl rfl rfl ?_
    refine m_gf rfl hh.1 rfl (v := .ref 170) (by show va_rf (M.2.2 169 0) = _; rw [r0]; rfl) ?_
    refine m_gf rfl hh.2.1.1 rfl (v := .ref 171) (by show va_rf (M.2.2 170 0) = _; rw [r2]; rfl) ?_
    refine g1 (n := 1) rfl rfl rfl rfl ?_
    refine m_gf rfl hh.1 rfl (v := .int (nI s.1)) (by show Value.int (M.1 169 2) = _; rw [h1.1]) ?_
    refine m_il rfl hh.2.1.2.1.oa (nI_int (by omega)) (by omega) ?_
    rw [(hrow s.1 h1.2).1]
    refine g1 (n := 1) rfl rfl rfl rfl ?_
    refine g_ic rfl (fun c2 => ?_) (fun c2 => ?_)
    · have c2 : ¬ kd T s.1 = t := fun z => (rf_cc_iff _ _ .ne).mp c2 (by rw [z])
      refine g1 (n := 1) rfl rfl rfl rfl ?_
      refine gx_ret rfl rfl ⟨?_, rfl⟩
      unfold p_is
      rw [decide_eq_false c2, Bool.and_false]; rfl
    · have c2 : kd T s.1 = t := Classical.byContradiction fun z => c2 ((rf_cc_iff _ _ .ne).mpr (fun w => z (Int32.toInt_inj.mp w)))
      refine g1 (n := 1) rfl rfl rfl rfl ?_
      refine g3 rfl rfl rfl ?_
      refine gx_ret rfl rfl ⟨?_, rfl⟩
      unfold p_is
      rw [← h8, decide_eq_true c, decide_eq_true c2]; rfl
theorem p_expect {t : Int32} : pdo fz S p T (1, 40) 45 [.int t] (p_ex T t) := by
  intro M s h
  refine g1 (n := 1) rfl rfl rfl rfl ?_
  refine g1 (n := 1) rfl rfl rfl rfl ?_
  refine m_iv (a := 169) (as := [.int t]) (rest := []) rfl (by decide) h.1.1.1 rfl rfl (Nat.le_of_ble_eq_true rfl) ⟨Nat.le_of_ble_eq_true rfl, Nat.le_of_ble_eq_true rfl, Nat.le_of_ble_eq_true rfl⟩ ?_
  refine gx_room (gx_mono (p_isAt h) ?_) (Nat.zero_le _) (Nat.zero_le _)
  rintro r h' ⟨rfl, rfl⟩
  unfold p_ex
  refine g_if rfl (fun c => ?_) (fun c => ?_)
  · rw [bI_no c]
    refine g1 (n := 1) rfl rfl rfl rfl ?_
    refine m_iv (a := 169) (as := []) (rest := []) rfl (by decide) h.1.1.1 rfl rfl (Nat.le_of_ble_eq_true rfl) ⟨Nat.le_of_ble_eq_true rfl, Nat.le_of_ble_eq_true rfl, Nat.le_of_ble_eq_true rfl⟩ ?_
    refine gx_room (gx_mono (p_refuse M s h) ?_) (Nat.zero_le _) (Nat.zero_le _)
    rintro r h' ⟨rfl, M', rfl, q1, q2⟩
    exact gx_ret rfl rfl ⟨rfl, M', rfl, q1, q2⟩
  · rw [bI_yes c]
    refine g1 (n := 1) rfl rfl rfl rfl ?_
    refine m_iv (a := 169) (as := []) (rest := []) rfl (by decide) h.1.1.1 rfl rfl (Nat.le_of_ble_eq_true rfl) ⟨Nat.le_of_ble_eq_true rfl, Nat.le_of_ble_eq_true rfl, Nat.le_of_ble_eq_true rfl⟩ ?_
    refine gx_room (gx_mono (p_advance M s h) ?_) (Nat.zero_le _) (Nat.zero_le _)
    rintro r h' ⟨rfl, M', rfl, q1, q2⟩
    refine g3 rfl rfl rfl ?_
    exact gx_ret rfl rfl ⟨rfl, M', rfl, q1, q2⟩
theorem p_emit (h : pz fz S p T M s) {x y : Int32} : gx (cx0 fz) (0, 0) 51 0 [(0, .ref p), (1, .int x), (2, .int y)] [] (M, S) (fun r h' => r = none ∧ ∃ M', h' = (M', S) ∧ pz fz S p T M' s ∧ pz_fr p M M') := by
  have h' := h
  obtain ⟨h0, h1, h2, h3, h4, h5, ⟨cc, h6, h7⟩, h8⟩ := h
  obtain ⟨hh, ⟨r0, r1, r2, r3, r4, r5⟩, hT, hl, hrow⟩ := h0
  have hp : 25 ≤ p ∧ p + 11 ≤ 168 := ⟨hh.2.2.2.1, hh.2.2.2.2.1⟩
  refine g1 (n := 1) rfl rfl rfl rfl ?_
  refine m_gf rfl hh.2.2.1 rfl (v := .int (nI cc)) (by show Value.int (M.1 p 3) = _; rw [h7]) ?_
  refine g1 (n := 3) rfl rfl rfl rfl ?_
  refine g_ic rfl (fun c => ?_) (fun c => ?_)
  · exact gx_ret rfl rfl ⟨rfl, M, rfl, h', pz_fr.rfl' p M⟩
  · have c : ¬ (160 : Int) ≤ (nI cc).toInt := fun z => c ((rf_cc_iff _ 160 .ge).mpr z)
    rw [nI_int (by omega)] at c
    refine g1 (n := 1) rfl rfl rfl rfl ?_
    refine m_gf rfl hh.2.2.1 rfl (v := .ref (p + 10)) (by show va_rf (M.2.2 p 14) = _; rw [r5 14 (by omega) (by omega)]; rfl) ?_
    refine g1 (n := 1) rfl rfl rfl rfl ?_
    refine m_gf rfl hh.2.2.1 rfl (v := .int (nI cc)) (by show Value.int (M.1 p 3) = _; rw [h7]) ?_
    refine g1 (n := 1) rfl rfl rfl rfl ?_
    refine m_is rfl (hh.2.2.2.2.2.2 10 (by omega) (by omega)) (nI_int (by omega)) (by omega) ?_
    refine g1 (n := 1) rfl rfl rfl rfl ?_
    refine m_gf rfl hh.2.2.1 rfl (v := .ref (p + 11)) (by show va_rf (M.2.2 p 15) = _; rw [r5 15 (by omega) (by omega)]; rfl) ?_
    refine g1 (n := 1) rfl rfl rfl rfl ?_
    refine m_gf rfl hh.2.2.1 rfl (v := .int (nI cc)) (by show Value.int ((rf_wi M (p + 10) cc x).1 p 3) = _; rw [rf_wi_of _ _ (by omega), h7]) ?_
    refine g1 (n := 1) rfl rfl rfl rfl ?_
    refine m_is rfl (hh.2.2.2.2.2.2 11 (by omega) (by omega)) (nI_int (by omega)) (by omega) ?_
    refine g1 (n := 1) rfl rfl rfl rfl ?_
    refine g0 rfl rfl rfl ?_
    refine m_gf rfl hh.2.2.1 rfl (v := .int (nI cc)) (by show Value.int ((rf_wi (rf_wi M (p + 10) cc x) (p + 11) cc y).1 p 3) = _; rw [rf_wi_of _ _ (by omega), rf_wi_of _ _ (by omega), h7]) ?_
    refine g1 (n := 1) rfl rfl rfl rfl ?_
    refine g0 rfl rfl rfl ?_
    refine m_pf rfl hh.2.2.1 rfl (M' := rf_wi (rf_wi (rf_wi M (p + 10) cc x) (p + 11) cc y) p 3 (nI cc + Int32.ofInt 1)) rfl ?_
    rw [nI_suc (by omega)]
    exact gx_ret rfl rfl ⟨rfl, _, rfl, ((h'.cc (by omega)).cc (by omega)).cc3 (by omega), (((pz_fr.rfl' p M).wi (by omega)).wi (by omega)).wi (by omega)⟩
end PZ
