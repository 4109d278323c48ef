theorem byt0 (x : BitVec 32) (s : Nat) (hs : s ≤ 24) : ((x.sshiftRight s).signExtend 8).signExtend 32 &&& 255#32 = (x >>> s) &&& 255#32 := by
  apply BitVec.eq_of_getLsbD_eq
  intro i hi
  have h255 : (255#32).getLsbD i = decide (i < 8) := by
    have : ∀ j : Fin 32, (255#32).getLsbD j.1 = decide (j.1 < 8) := by decide
    exact this ⟨i, hi⟩
  rw [BitVec.getLsbD_and, BitVec.getLsbD_and, h255]
  by_cases h8 : i < 8
  · simp [h8]
    rw [BitVec.getLsbD_signExtend, BitVec.getLsbD_signExtend, BitVec.getLsbD_sshiftRight]
    simp [h8, hi]
    have : s + i < 32 := by omega
    simp [this]
    intro h
    omega
  · simp [h8]
theorem byt (x : Int32) (t : Nat) (ht : t < 4) : (Int32.ofInt (Int32.ofInt (Int32.ofInt (Int32.ofInt x.toInt >>> (Int32.ofInt (24 - 8 * (t : Int)) &&& 31)).toInt).toInt8.toInt32.toInt).toInt8.toInt32.toInt &&& Int32.ofInt 255).toInt = (fb x t).toInt := by
  refine congrArg Int32.toInt ?_
  rw [Int32.ofInt_toInt, Int32.ofInt_toInt, Int32.ofInt_toInt, Int32.ofInt_toInt]
  have e8 : ∀ y : Int32, y.toInt8.toInt32.toInt8.toInt32 = y.toInt8.toInt32 := fun y => by rw [Int8.toInt8_toInt32]
  rw [e8]
  unfold fb sh8
  refine Int32.toBitVec_inj.mp ?_
  have h : t = 0 ∨ t = 1 ∨ t = 2 ∨ t = 3 := by omega
  have e255 : (Int32.ofInt 255).toBitVec = 255#32 := by decide
  have e255' : (Int16.ofInt 255).toInt32.toBitVec = 255#32 := by decide
  rw [Int32.toBitVec_and, Int32.toBitVec_and, e255, e255', Int8.toBitVec_toInt32, Int32.toBitVec_toInt8, Int32.toBitVec_shiftRight]
  have eu : ∀ y : UInt32, y.toInt32.toBitVec = y.toBitVec := fun y => rfl
  rw [eu, UInt32.toBitVec_shiftRight]
  rcases h with rfl | rfl | rfl | rfl
  · exact byt0 x.toBitVec 24 (by omega)
  · exact byt0 x.toBitVec 16 (by omega)
  · exact byt0 x.toBitVec 8 (by omega)
  · exact byt0 x.toBitVec 0 (by omega)
theorem fb_le (x : Int32) (t : Nat) : 0 ≤ (fb x t).toInt ∧ (fb x t).toInt ≤ 255 := by
  unfold fb
  generalize (x.toUInt32 >>> ((sh8 t).toUInt32 &&& Int32.toUInt32 31)).toInt32 = y
  have e255' : (Int16.ofInt 255).toInt32.toBitVec = 255#32 := by decide
  have h : (y &&& (Int16.ofInt 255).toInt32).toBitVec.toNat ≤ 255 := by
    rw [Int32.toBitVec_and, e255', BitVec.toNat_and]
    exact Nat.and_le_right
  have h2 : (y &&& (Int16.ofInt 255).toInt32).toInt = (y &&& (Int16.ofInt 255).toInt32).toBitVec.toInt := rfl
  rw [h2, BitVec.toInt_eq_toNat_of_lt (by omega)]
  omega

theorem q4_ : ∀ j : Fin 20, (Int32.ofInt (j.1 : Int) / Int32.ofInt 4).toInt = ((j.1 / 4 : Nat) : Int) ∧ (Int32.ofInt (j.1 : Int) - Int32.ofInt (j.1 : Int) / Int32.ofInt 4 * Int32.ofInt 4).toInt = ((j.1 % 4 : Nat) : Int) := by decide
/-- byte t of five numbers -/
theorem fb5_at (a b c d e : Int32) {j : Nat} (hj : j < 20) : fb5 a b c d e j = fb (if j / 4 = 0 then a else if j / 4 = 1 then b else if j / 4 = 2 then c else if j / 4 = 3 then d else e) (j % 4) := by
  unfold fb5
  by_cases h4 : j < 4
  · rw [if_pos h4, if_pos (by omega), show j % 4 = j by omega]
  rw [if_neg h4, if_neg (show ¬ j / 4 = 0 by omega)]
  by_cases h8 : j < 8
  · rw [if_pos h8, if_pos (by omega), show j % 4 = j - 4 by omega]
  rw [if_neg h8, if_neg (show ¬ j / 4 = 1 by omega)]
  by_cases h12 : j < 12
  · rw [if_pos h12, if_pos (by omega), show j % 4 = j - 8 by omega]
  rw [if_neg h12, if_neg (show ¬ j / 4 = 2 by omega)]
  by_cases h16 : j < 16
  · rw [if_pos h16, if_pos (by omega), show j % 4 = j - 12 by omega]
  rw [if_neg h16, if_neg (show ¬ j / 4 = 3 by omega), show j % 4 = j - 16 by omega]
theorem fb5_le (a b c d e : Int32) (t : Nat) : 0 ≤ (fb5 a b c d e t).toInt ∧ (fb5 a b c d e t).toInt ≤ 255 := by
  unfold fb5
  split
  · exact fb_le _ _
  · split
    · exact fb_le _ _
    · split
      · exact fb_le _ _
      · split
        · exact fb_le _ _
        · exact fb_le _ _
def fdw (n j a k : Nat) : Prop := (a = 353 ∧ (k = 0 ∨ k = 2)) ∨ (a = 354 ∧ n ≤ k ∧ k < n + j)
theorem s_feed {M : rf_M} {n : Nat} {a b c d e : Int32} {K : Int → rf_M → Prop} (hn : gi M 353 2 = (n : Int)) (h8 : n ≤ 800) (kg : n ≤ 780 → ∀ M', eqx (fdw n 20) M M' → gi M' 353 2 = ((n + 20 : Nat) : Int) → (∀ t, t < 20 → (Int32.ofInt (gi M' 354 (n + t)) &&& Int32.ofInt 255).toInt = (fb5 a b c d e t).toInt) → K ((n + 20 : Nat) : Int) M') (kb : 780 < n → K (-1) (wi M 353 0 0)) : wm_feed a.toInt b.toInt c.toInt d.toInt e.toInt M K := by
  intro M1 e1
  have s1 : gi M1 353 2 = (n : Int) := by rw [e1, gi_of (by omega)]; exact hn
  have x1 : eqx (fdw n 0) M M1 := by rw [e1]; exact (eqx.rfl' M).wi (Or.inl ⟨rfl, Or.inl rfl⟩)
  rw [s1]
  refine ⟨inr_z (by omega) (by omega), fun z => ?_, fun z => by rw [e1]; exact kb (by omega)⟩
  clear e1
  refine ⟨fun m v1 v2 v3 v4 v5 v6 M' => (v1 = a.toInt ∧ v2 = b.toInt ∧ v3 = c.toInt ∧ v4 = d.toInt ∧ v5 = e.toInt) ∧ ∃ j : Nat, v6 = (j : Int) ∧ j ≤ 20 ∧ m = 20 - j ∧ gi M' 353 2 = ((n + j : Nat) : Int) ∧ eqx (fdw n j) M M' ∧ ∀ t, t < j → (Int32.ofInt (gi M' 354 (n + t)) &&& Int32.ofInt 255).toInt = (fb5 a b c d e t).toInt, ⟨20, ⟨rfl, rfl, rfl, rfl, rfl⟩, 0, rfl, by omega, rfl, s1, x1, fun t ht => absurd ht (Nat.not_lt_zero _)⟩, ?_⟩
  rintro m v1 v2 v3 v4 v5 v6 M2 ⟨⟨rfl, rfl, rfl, rfl, rfl⟩, j, rfl, j1, j2, s2, x2, hb⟩
  refine ⟨inr_z (by omega) (by omega), fun w => ?_, fun w => ?_⟩
  · have hj : j = 20 := by omega
    subst hj
    rw [s2]
    exact kg (by omega) M2 x2 s2 hb
  have hj : j < 20 := by omega
  obtain ⟨q1, q2⟩ := q4_ ⟨j, hj⟩
  dsimp only at q1 q2
  have put : ∀ x : Int32, fb5 a b c d e j = fb x (j % 4) → w_feed_78 a.toInt b.toInt c.toInt d.toInt e.toInt (j : Int) x.toInt M2 (fun (v1' v2' v3' v4' v5' v6' : Int) (M' : rf_M) => ∃ m', m' < m ∧ ((v1' = a.toInt ∧ v2' = b.toInt ∧ v3' = c.toInt ∧ v4' = d.toInt ∧ v5' = e.toInt) ∧ ∃ j : Nat, v6' = (j : Int) ∧ j ≤ 20 ∧ m' = 20 - j ∧ gi M' 353 2 = ((n + j : Nat) : Int) ∧ eqx (fdw n j) M M' ∧ ∀ t, t < j → (Int32.ofInt (gi M' 354 (n + t)) &&& Int32.ofInt 255).toInt = (fb5 a b c d e t).toInt)) K := by
    intro x hx
    unfold w_feed_78
    rw [s2, q2, show (((n + j : Nat) : Int)).toNat = n + j by omega]
    refine ⟨⟨by omega, by omega⟩, fun M3 e3 M4 e4 => ?_⟩
    have s3 : gi M3 353 2 = ((n + j : Nat) : Int) := by rw [e3, gi_of (by omega)]; exact s2
    rw [s3] at e4
    refine ⟨20 - (j + 1), by omega, ⟨rfl, rfl, rfl, rfl, rfl⟩, j + 1, by omega, by omega, rfl, ?_, ?_, fun t ht => ?_⟩
    · rw [e4, gi_at (inr_z (by omega) (by omega))]; omega
    · rw [e4, e3]
      refine ((x2.mono (fun a k z => ?_)).wi ?_).wi ?_
      · unfold fdw at z ⊢; omega
      · exact Or.inr ⟨rfl, by omega, by omega⟩
      · exact Or.inl ⟨rfl, Or.inr rfl⟩
    · by_cases htj : t = j
      · rw [htj, e4, gi_of (by omega), e3, gi_at (inr_ti _), hx]
        exact byt x (j % 4) (by omega)
      · rw [e4, gi_of (by omega), e3, gi_of (by omega)]
        exact hb t (by omega)
  have h5 := fb5_at a b c d e hj
  rw [q1]
  refine ⟨fun w0 => put a ?_, fun w0 => ⟨fun w1 => put b ?_, fun w1 => ⟨fun w2 => put c ?_, fun w2 => ⟨fun w3 => put d ?_, fun w3 => put e ?_⟩⟩⟩⟩
  · rw [h5, if_pos (by omega)]
  · rw [h5, if_neg (by omega), if_pos (by omega)]
  · rw [h5, if_neg (by omega), if_neg (by omega), if_pos (by omega)]
  · rw [h5, if_neg (by omega), if_neg (by omega), if_neg (by omega), if_pos (by omega)]
  · rw [h5, if_neg (by omega), if_neg (by omega), if_neg (by omega), if_neg (by omega)]
/-! BOTH TOGETHER: what holds of the two memories between two calls -/
/-- the reference's half, beside n bytes and c texts of the program -/
def mJ (M : rf_M) (n c : Nat) : Prop := mIn M c ∧ tp M n (M.1 23) ∧ (∀ q ∈ rfM, M.2.2 353 q.1 = some q.2) ∧ ∀ i, i < c → gi M 355 i = (M.1 (25 + 12 * i) 0).toInt ∧ gi M 356 i = (M.1 (25 + 12 * i) 1).toInt ∧ gi M 357 i = (M.1 (25 + 12 * i) 2).toInt
def JJ (fz : Bool) (L : Nat) (xs : Nat → Int32) (M : rf_M) : Prop := ∃ n c, cJ fz L xs M n c ∧ mJ M n c
theorem shM_eq : (List.range 52).all (fun k => decide (shK.getD (k + 332) shD = shM (k + 354))) = true := by decide +kernel
section FIN

variable {fz : Bool} {L : Nat} {xs : Nat → Int32} {M M' M1 : rf_M} {n c : Nat}

theorem rk_HK {R : Nat → Nat → Option Nat} (h : ∀ q ∈ rfM, R 353 q.1 = some q.2) : rk fz (HK fz L xs).2 R := by
  refine ⟨HK_go fz L xs (by decide) (by decide) rfl, ⟨by rw [HK_n]; decide, fun a a1 a2 => ?_⟩, h⟩
  have e := List.all_eq_true.mp shM_eq (a - 354) (List.mem_range.mpr (by omega))
  simp only [decide_eq_true_eq] at e
  rw [show a - 354 + 332 = a - 22 by omega, show a - 354 + 354 = a by omega] at e
  rw [HK_shp fz L xs (by omega), K2_shp fz (by omega) (by omega)]
  exact e
theorem gi_same {a k : Nat} (h : sx_same M M' a k) : gi M' a k = gi M a k := by unfold gi; rw [h.1]
theorem mJ.prog (h : mJ M n c) (hc : c ≤ 12) (hf : ∀ a k, 353 ≤ a → sx_same M M' a k) (h23 : ∀ k, M'.1 23 k = M.1 23 k) (hp : ∀ i k, i < 12 → M'.1 (25 + 12 * i) k = M.1 (25 + 12 * i) k) : mJ M' n c := by
  obtain ⟨h1, ⟨t1, t2, t3⟩, h3, h4⟩ := h
  have g : ∀ a k, 353 ≤ a → gi M' a k = gi M a k := fun a k ha => gi_same (hf a k ha)
  refine ⟨h1.eq (fun a k z => g a k (by unfold mIc cdc at z; omega)), ⟨(g _ _ (by omega)).trans t1, t2, fun k hk => ?_⟩, fun q hq => (hf 353 q.1 (by omega)).2.2.trans (h3 q hq), fun i hi => ?_⟩
  · rw [g 354 k (by omega), h23 k]; exact t3 k hk
  · rw [g 355 i (by omega), g 356 i (by omega), g 357 i (by omega), hp i 0 (by omega), hp i 1 (by omega), hp i 2 (by omega)]
    exact h4 i hi
theorem cJ.fq (h : cJ fz L xs M n c) (hf : fq M M') : cJ fz L xs M' n c := by
  obtain ⟨h1, h2, h3, h4⟩ := h
  have e : ∀ a k, a < 353 → M'.1 a k = M.1 a k := fun a k ha => (hf.2 a k ha).1
  refine ⟨⟨fun a k f a1 a2 a3 => ?_, fun a k ha => ?_⟩, ?_, ⟨(e _ _ (by omega)).trans h3.1, h3.2⟩, ⟨(e _ _ (by omega)).trans h4.1, h4.2⟩⟩
  · by_cases ha : a < 353
    · have := h1.1 a k f a1 a2 a3
      rcases f with ⟨lo, hi⟩ | (_ | ⟨g, nul⟩)
      · show lo ≤ (M'.1 a k).toInt ∧ (M'.1 a k).toInt ≤ hi
        rw [e a k ha]; exact this
      · trivial
      · show (match M'.2.2 a k with | none => nul = true | some b => sx_rc (xk_W fz L xs) g b)
        rw [hf.1]; exact this
    · have a3 : sx_fa xk_G (xk_rg a) k = some f := a3
      rw [rg_far (by omega)] at a3
      unfold sx_fa at a3
      have : xk_G[999]? = none := rfl
      rw [this] at a3
      cases a3
  · have ha' : a < 22 := ha
    have := h1.2 a k ha
    have q := hf.2 a k (by omega)
    exact ⟨q.1.trans this.1, q.2.trans this.2.1, by rw [hf.1]; exact this.2.2⟩
  · exact cl_ref_of (fun a k _ _ => by rw [hf.1]) h2
theorem mJ.model (h : mJ M n c) (hc : c ≤ 12) (hf : fq M M') (hq : mQ c M M') : mJ M' n c := by
  obtain ⟨h1, ⟨t1, t2, t3⟩, h3, h4⟩ := h
  have g : ∀ a k, ¬ rnw a k → gi M' a k = gi M a k := hq.2
  refine ⟨hq.1, ⟨(g _ _ (by unfold rnw; omega)).trans t1, t2, fun k hk => ?_⟩, fun q hq => by rw [hf.1]; exact h3 q hq, fun i hi => ?_⟩
  · rw [g 354 k (by unfold rnw; omega), (hf.2 23 k (by omega)).1]; exact t3 k hk
  · rw [g 355 i (by unfold rnw; omega), g 356 i (by unfold rnw; omega), g 357 i (by unfold rnw; omega), (hf.2 (25 + 12 * i) 0 (by omega)).1, (hf.2 (25 + 12 * i) 1 (by omega)).1, (hf.2 (25 + 12 * i) 2 (by omega)).1]
    exact h4 i hi
theorem zv_i (a : Int32) : zv a.toInt = .int a := by show Value.int (Int32.ofInt a.toInt) = _; rw [ofi_ti]
theorem JJ.c12 (h : cJ fz L xs M n c) : c ≤ 12 := h.2.2.2.2
/-- a pair of calls that leaves tape and texts: ints -/
theorem pr_I {jx jm : Nat} {as : List Value} (hx : ∀ {M : rf_M} {n c : Nat}, cJ fz L xs M n c → gx (cx0 fz) (2000, 80000) jx 0 (lv_args 0 (.ref 22 :: as)) [] (M, (HK fz L xs).2) (fun r h' => ∃ (z : Int32) (M' : rf_M), r = some (.int z) ∧ h' = (M', (HK fz L xs).2) ∧ cJ fz L xs M' n c ∧ (∀ k, M'.1 23 k = M.1 23 k) ∧ (∀ i k, i < 12 → M'.1 (25 + 12 * i) k = M.1 (25 + 12 * i) k) ∧ ∀ a k, 353 ≤ a → sx_same M M' a k))
    (hm : ∀ {M : rf_M} {c : Nat}, mIn M c → rk fz (HK fz L xs).2 M.2.2 → gx (cx0 fz) (2000, 80000) jm 0 (lv_args 0 (.ref 353 :: as)) [] (M, (HK fz L xs).2) (vq_i M (HK fz L xs).2 (fun _ M' => mQ c M M'))) : lw_I (cx0 fz) (HK fz L xs).2 xs (JJ fz L xs) false jx jm as := by
  rintro M ⟨n, c, hc, hM⟩
  refine gx_mono (hx hc) ?_
  rintro r h' ⟨z, M1, rfl, rfl, c1, c2, c3, c4⟩
  have h1 := hM.prog (JJ.c12 hc) c4 c2 c3
  refine ⟨z, M1, rfl, rfl, c1.row, gx_mono (hm h1.1 (rk_HK h1.2.2.1)) ?_⟩
  rintro r' h'' ⟨z', M2, rfl, rfl, f2, q2⟩
  exact ⟨_, M2, rfl, rfl, ⟨n, c, c1.fq f2, h1.model (JJ.c12 hc) f2 q2⟩, fun w => absurd w (by decide)⟩
theorem pr_L {jx jm : Nat} {as : List Value} (hx : ∀ {M : rf_M} {n c : Nat}, cJ fz L xs M n c → gx (cx0 fz) (2000, 80000) jx 0 (lv_args 0 (.ref 22 :: as)) [] (M, (HK fz L xs).2) (fun r h' => ∃ (z : Int64) (M' : rf_M), r = some (.long z) ∧ h' = (M', (HK fz L xs).2) ∧ cJ fz L xs M' n c ∧ (∀ k, M'.1 23 k = M.1 23 k) ∧ (∀ i k, i < 12 → M'.1 (25 + 12 * i) k = M.1 (25 + 12 * i) k) ∧ ∀ a k, 353 ≤ a → sx_same M M' a k))
    (hm : ∀ {M : rf_M} {c : Nat}, mIn M c → rk fz (HK fz L xs).2 M.2.2 → gx (cx0 fz) (2000, 80000) jm 0 (lv_args 0 (.ref 353 :: as)) [] (M, (HK fz L xs).2) (vq_l M (HK fz L xs).2 (fun _ M' => mQ c M M'))) : lw_L (cx0 fz) (HK fz L xs).2 xs (JJ fz L xs) false jx jm as := by
  rintro M ⟨n, c, hc, hM⟩
  refine gx_mono (hx hc) ?_
  rintro r h' ⟨z, M1, rfl, rfl, c1, c2, c3, c4⟩
  have h1 := hM.prog (JJ.c12 hc) c4 c2 c3
  refine ⟨z, M1, rfl, rfl, c1.row, gx_mono (hm h1.1 (rk_HK h1.2.2.1)) ?_⟩
  rintro r' h'' ⟨z', M2, rfl, rfl, f2, q2⟩
  exact ⟨_, M2, rfl, rfl, ⟨n, c, c1.fq f2, h1.model (JJ.c12 hc) f2 q2⟩, fun w => absurd w (by decide)⟩
end FIN

section FIN2

variable (fz : Bool) (L : Nat) (xs : Nat → Int32)

theorem Q_place : lw_I (cx0 fz) (HK fz L xs).2 xs (JJ fz L xs) false 56 152 [] := pr_I (fun h => cq_place fz L xs h) (fun hm hS => gx_room (W_place_m hS (fq.rfl' _) (s_place hm (fun _ _ h => h))) (Nat.le_of_ble_eq_true rfl) (Nat.le_of_ble_eq_true rfl))
theorem Q_put (a0 : Int32) (a1 : Int64) : lw_I (cx0 fz) (HK fz L xs).2 xs (JJ fz L xs) false 59 184 [.int a0, .long a1] := pr_I (fun h => cq_put fz L xs h a0 a1) (fun hm hS => by rw [← zv_i a0]; exact gx_room (W_put_m hS (fq.rfl' _) (s_put hm (fun _ _ h => h))) (Nat.le_of_ble_eq_true rfl) (Nat.le_of_ble_eq_true rfl))
theorem Q_cell (a0 : Int32) : lw_L (cx0 fz) (HK fz L xs).2 xs (JJ fz L xs) false 79 185 [.int a0] := pr_L (fun h => cq_cell fz L xs h a0) (fun hm hS => by rw [← zv_i a0]; exact gx_room (W_cell_m hS (fq.rfl' _) (s_cell hm (fun _ _ h => h))) (Nat.le_of_ble_eq_true rfl) (Nat.le_of_ble_eq_true rfl))
theorem Q_version (a0 : Int32) : lw_I (cx0 fz) (HK fz L xs).2 xs (JJ fz L xs) false 80 186 [.int a0] := pr_I (fun h => cq_version fz L xs h a0) (fun hm hS => by rw [← zv_i a0]; exact gx_room (W_version_m hS (fq.rfl' _) (s_version hm (fun _ _ h => h))) (Nat.le_of_ble_eq_true rfl) (Nat.le_of_ble_eq_true rfl))
theorem Q_add (a0 a1 : Int32) : lw_I (cx0 fz) (HK fz L xs).2 xs (JJ fz L xs) false 81 187 [.int a0, .int a1] := pr_I (fun h => cq_add fz L xs h a0 a1) (fun hm hS => by rw [← zv_i a0, ← zv_i a1]; exact gx_room (W_add_m hS (fq.rfl' _) (s_add hm (fun _ _ h => h))) (Nat.le_of_ble_eq_true rfl) (Nat.le_of_ble_eq_true rfl))
theorem Q_turn (a0 : Int32) : lw_I (cx0 fz) (HK fz L xs).2 xs (JJ fz L xs) false 84 154 [.int a0] := pr_I (fun h => cq_turn fz L xs h a0) (fun hm hS => by rw [← zv_i a0]; exact gx_room (W_turn_m hS (fq.rfl' _) (sm_turn hm (fun _ _ h => h))) (Nat.le_of_ble_eq_true rfl) (Nat.le_of_ble_eq_true rfl))
theorem Q_play (a0 : Int64) (a1 : Int32) : lw_I (cx0 fz) (HK fz L xs).2 xs (JJ fz L xs) false 108 183 [.long a0, .int a1] := pr_I (fun h => cq_play fz L xs h a0 a1) (fun hm hS => by rw [← zv_i a1]; exact gx_room (W_play_m hS (fq.rfl' _) (s_play hm (fun _ _ h => h))) (Nat.le_of_ble_eq_true rfl) (Nat.le_of_ble_eq_true rfl))
theorem Q_client (a0 a1 : Int32) : lw_I (cx0 fz) (HK fz L xs).2 xs (JJ fz L xs) false 109 188 [.int a0, .int a1] := pr_I (fun h => cq_client fz L xs h a0 a1) (fun hm hS => by rw [← zv_i a0, ← zv_i a1]; exact gx_room (W_client_m hS (fq.rfl' _) (s_client hm (fun _ _ h => h))) (Nat.le_of_ble_eq_true rfl) (Nat.le_of_ble_eq_true rfl))
theorem Q_sees (a0 a1 : Int32) : lw_L (cx0 fz) (HK fz L xs).2 xs (JJ fz L xs) false 111 189 [.int a0, .int a1] := pr_L (fun h => cq_sees fz L xs h a0 a1) (fun hm hS => by rw [← zv_i a0, ← zv_i a1]; exact gx_room (W_sees_m hS (fq.rfl' _) (s_sees hm (fun _ _ h => h))) (Nat.le_of_ble_eq_true rfl) (Nat.le_of_ble_eq_true rfl))
theorem Q_rules : lw_I (cx0 fz) (HK fz L xs).2 xs (JJ fz L xs) false 112 190 [] := pr_I (fun h => cq_rules fz L xs h) (fun hm hS => gx_room (W_rules_m hS (fq.rfl' _) (s_rules hm (fun _ _ h => h))) (Nat.le_of_ble_eq_true rfl) (Nat.le_of_ble_eq_true rfl))
theorem Q_rows : lw_I (cx0 fz) (HK fz L xs).2 xs (JJ fz L xs) false 113 191 [] := pr_I (fun h => cq_rows fz L xs h) (fun hm hS => gx_room (W_rows_m hS (fq.rfl' _) (s_rows hm (fun _ _ h => h))) (Nat.le_of_ble_eq_true rfl) (Nat.le_of_ble_eq_true rfl))
theorem Q_row (a0 a1 : Int32) : lw_I (cx0 fz) (HK fz L xs).2 xs (JJ fz L xs) false 114 192 [.int a0, .int a1] := pr_I (fun h => cq_row fz L xs h a0 a1) (fun hm hS => by rw [← zv_i a0, ← zv_i a1]; exact gx_room (W_row_m hS (fq.rfl' _) (s_row hm (fun _ _ h => h))) (Nat.le_of_ble_eq_true rfl) (Nat.le_of_ble_eq_true rfl))
theorem Q_value (a0 : Int32) : lw_L (cx0 fz) (HK fz L xs).2 xs (JJ fz L xs) false 117 193 [.int a0] := pr_L (fun h => cq_value fz L xs h a0) (fun hm hS => by rw [← zv_i a0]; exact gx_room (W_value_m hS (fq.rfl' _) (s_value hm (fun _ _ h => h))) (Nat.le_of_ble_eq_true rfl) (Nat.le_of_ble_eq_true rfl))
theorem Q_replays : lw_I (cx0 fz) (HK fz L xs).2 xs (JJ fz L xs) false 118 194 [] := pr_I (fun h => cq_replays fz L xs h) (fun hm hS => gx_room (W_replays_m hS (fq.rfl' _) (s_replays hm (fun _ _ h => h))) (Nat.le_of_ble_eq_true rfl) (Nat.le_of_ble_eq_true rfl))
theorem Q_clear : lw_I (cx0 fz) (HK fz L xs).2 xs (JJ fz L xs) false 122 197 [] := pr_I (fun h => cq_clear fz L xs h) (fun hm hS => gx_room (W_clear_m hS (fq.rfl' _) (s_clear hm (fun _ _ h => h))) (Nat.le_of_ble_eq_true rfl) (Nat.le_of_ble_eq_true rfl))
end FIN2
