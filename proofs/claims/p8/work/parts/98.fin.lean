/-! BOTH TOGETHER: what holds of the two memories between two calls -/
/-- the reference's half, beside n bytes and c texts of the program -/
def mJ (M : rf_M) (n c : Nat) : Prop := mIn M c ∧ tp M n (M.1 23) ∧ (∀ q ∈ rfM, M.2.2 353 q.1 = some q.2) ∧ ∀ i, i < c → gi M 355 i = (M.1 (25 + 12 * i) 0).toInt ∧ gi M 356 i = (M.1 (25 + 12 * i) 1).toInt ∧ gi M 357 i = (M.1 (25 + 12 * i) 2).toInt
def JJ (fz : Bool) (L : Nat) (xs : Nat → Int32) (M : rf_M) : Prop := ∃ n c, cJ fz L xs M n c ∧ mJ M n c
theorem shM_eq : (List.range 52).all (fun k => decide (shK.getD (k + 332) shD = shM (k + 354))) = true := by decide +kernel
section FIN
variable {fz : Bool} {L : Nat} {xs : Nat → Int32} {M M' M1 : rf_M} {n c : Nat}
theorem rk_HK {R : Nat → Nat → Option Nat} (h : ∀ q ∈ rfM, R 353 q.1 = some q.2) : rk fz (HK fz L xs).2 R := by
  refine ⟨HK_go fz L xs (by decide) (by decide) rfl, ⟨by rw [HK_n]; decide, fun a a1 a2 => ?_⟩, h⟩
  have e := List.all_eq_true.mp shM_eq (a - 354) (List.mem_range.mpr (by omega))
  simp only [decide_eq_true_eq] at e
  rw [show a - 354 + 332 = a - 22 by omega, show a - 354 + 354 = a by omega] at e
  rw [HK_shp fz L xs (by omega), K2_shp fz (by omega) (by omega)]
  exact e
theorem gi_same {a k : Nat} (h : sx_same M M' a k) : gi M' a k = gi M a k := by unfold gi; rw [h.1]
theorem mJ.prog (h : mJ M n c) (hc : c ≤ 12) (hf : ∀ a k, 353 ≤ a → sx_same M M' a k) (h23 : ∀ k, M'.1 23 k = M.1 23 k) (hp : ∀ i k, i < 12 → M'.1 (25 + 12 * i) k = M.1 (25 + 12 * i) k) : mJ M' n c := by
  obtain ⟨h1, ⟨t1, t2, t3⟩, h3, h4⟩ := h
  have g : ∀ a k, 353 ≤ a → gi M' a k = gi M a k := fun a k ha => gi_same (hf a k ha)
  refine ⟨h1.eq (fun a k z => g a k (by unfold mIc cdc at z; omega)), ⟨(g _ _ (by omega)).trans t1, t2, fun k hk => ?_⟩, fun q hq => (hf 353 q.1 (by omega)).2.2.trans (h3 q hq), fun i hi => ?_⟩
  · rw [g 354 k (by omega), h23 k]; exact t3 k hk
  · rw [g 355 i (by omega), g 356 i (by omega), g 357 i (by omega), hp i 0 (by omega), hp i 1 (by omega), hp i 2 (by omega)]
    exact h4 i hi
theorem fq_gi (hf : fq M M') {a k : Nat} (ha : a < 353) : gi M' a k = gi M a k := by unfold gi; rw [(hf.2 a k ha).1]
theorem cJ.fq (h : cJ fz L xs M n c) (hf : fq M M') : cJ fz L xs M' n c := by
  obtain ⟨h1, h2, h3, h4⟩ := h
  have e : ∀ a k, a < 353 → M'.1 a k = M.1 a k := fun a k ha => (hf.2 a k ha).1
  refine ⟨⟨fun a k f a1 a2 a3 => ?_, fun a k ha => ?_⟩, ?_, ⟨(e _ _ (by omega)).trans h3.1, h3.2⟩, ⟨(e _ _ (by omega)).trans h4.1, h4.2⟩⟩
  · by_cases ha : a < 353
    · have := h1.1 a k f a1 a2 a3
      rcases f with ⟨lo, hi⟩ | (_ | ⟨g, nul⟩)
      · show lo ≤ (M'.1 a k).toInt ∧ (M'.1 a k).toInt ≤ hi
        rw [e a k ha]; exact this
      · trivial
      · show (match M'.2.2 a k with | none => nul = true | some b => sx_rc (xk_W fz L xs) g b)
        rw [hf.1]; exact this
    · have a3 : sx_fa xk_G (xk_rg a) k = some f := a3
      rw [rg_far (by omega)] at a3
      unfold sx_fa at a3
      have : xk_G[999]? = none := rfl
      rw [this] at a3
      cases a3
  · have ha' : a < 22 := ha
    have := h1.2 a k ha
    have q := hf.2 a k (by omega)
    exact ⟨q.1.trans this.1, q.2.trans this.2.1, by rw [hf.1]; exact this.2.2⟩
  · exact cl_ref_of (fun a k _ _ => by rw [hf.1]) h2
theorem mJ.model (h : mJ M n c) (hc : c ≤ 12) (hf : fq M M') (hq : mQ c M M') : mJ M' n c := by
  obtain ⟨h1, ⟨t1, t2, t3⟩, h3, h4⟩ := h
  have g : ∀ a k, ¬ rnw a k → gi M' a k = gi M a k := hq.2
  refine ⟨hq.1, ⟨(g _ _ (by unfold rnw; omega)).trans t1, t2, fun k hk => ?_⟩, fun q hq => by rw [hf.1]; exact h3 q hq, fun i hi => ?_⟩
  · rw [g 354 k (by unfold rnw; omega), (hf.2 23 k (by omega)).1]; exact t3 k hk
  · rw [g 355 i (by unfold rnw; omega), g 356 i (by unfold rnw; omega), g 357 i (by unfold rnw; omega), (hf.2 (25 + 12 * i) 0 (by omega)).1, (hf.2 (25 + 12 * i) 1 (by omega)).1, (hf.2 (25 + 12 * i) 2 (by omega)).1]
    exact h4 i hi
theorem zv_i (a : Int32) : zv a.toInt = .int a := by show Value.int (Int32.ofInt a.toInt) = _; rw [ofi_ti]
theorem JJ.c12 (h : cJ fz L xs M n c) : c ≤ 12 := h.2.2.2.2
/-- a pair of calls that leaves tape and texts: ints -/
theorem pr_I {jx jm : Nat} {as : List Value} (hx : ∀ {M : rf_M} {n c : Nat}, cJ fz L xs M n c → gx (cx0 fz) (2000, 80000) jx 0 (lv_args 0 (.ref 22 :: as)) [] (M, (HK fz L xs).2) (fun r h' => ∃ (z : Int32) (M' : rf_M), r = some (.int z) ∧ h' = (M', (HK fz L xs).2) ∧ cJ fz L xs M' n c ∧ (∀ k, M'.1 23 k = M.1 23 k) ∧ (∀ i k, i < 12 → M'.1 (25 + 12 * i) k = M.1 (25 + 12 * i) k) ∧ ∀ a k, 353 ≤ a → sx_same M M' a k))
    (hm : ∀ {M : rf_M} {c : Nat}, mIn M c → rk fz (HK fz L xs).2 M.2.2 → gx (cx0 fz) (2000, 80000) jm 0 (lv_args 0 (.ref 353 :: as)) [] (M, (HK fz L xs).2) (vq_i M (HK fz L xs).2 (fun _ M' => mQ c M M'))) : lw_I (cx0 fz) (HK fz L xs).2 xs (JJ fz L xs) false jx jm as := by
  rintro M ⟨n, c, hc, hM⟩
  refine gx_mono (hx hc) ?_
  rintro r h' ⟨z, M1, rfl, rfl, c1, c2, c3, c4⟩
  have h1 := hM.prog (JJ.c12 hc) c4 c2 c3
  refine ⟨z, M1, rfl, rfl, c1.row, gx_mono (hm h1.1 (rk_HK h1.2.2.1)) ?_⟩
  rintro r' h'' ⟨z', M2, rfl, rfl, f2, q2⟩
  exact ⟨_, M2, rfl, rfl, ⟨n, c, c1.fq f2, h1.model (JJ.c12 hc) f2 q2⟩, fun w => absurd w (by decide)⟩
theorem pr_L {jx jm : Nat} {as : List Value} (hx : ∀ {M : rf_M} {n c : Nat}, cJ fz L xs M n c → gx (cx0 fz) (2000, 80000) jx 0 (lv_args 0 (.ref 22 :: as)) [] (M, (HK fz L xs).2) (fun r h' => ∃ (z : Int64) (M' : rf_M), r = some (.long z) ∧ h' = (M', (HK fz L xs).2) ∧ cJ fz L xs M' n c ∧ (∀ k, M'.1 23 k = M.1 23 k) ∧ (∀ i k, i < 12 → M'.1 (25 + 12 * i) k = M.1 (25 + 12 * i) k) ∧ ∀ a k, 353 ≤ a → sx_same M M' a k))
    (hm : ∀ {M : rf_M} {c : Nat}, mIn M c → rk fz (HK fz L xs).2 M.2.2 → gx (cx0 fz) (2000, 80000) jm 0 (lv_args 0 (.ref 353 :: as)) [] (M, (HK fz L xs).2) (vq_l M (HK fz L xs).2 (fun _ M' => mQ c M M'))) : lw_L (cx0 fz) (HK fz L xs).2 xs (JJ fz L xs) false jx jm as := by
  rintro M ⟨n, c, hc, hM⟩
  refine gx_mono (hx hc) ?_
  rintro r h' ⟨z, M1, rfl, rfl, c1, c2, c3, c4⟩
  have h1 := hM.prog (JJ.c12 hc) c4 c2 c3
  refine ⟨z, M1, rfl, rfl, c1.row, gx_mono (hm h1.1 (rk_HK h1.2.2.1)) ?_⟩
  rintro r' h'' ⟨z', M2, rfl, rfl, f2, q2⟩
  exact ⟨_, M2, rfl, rfl, ⟨n, c, c1.fq f2, h1.model (JJ.c12 hc) f2 q2⟩, fun w => absurd w (by decide)⟩
theorem lw_w {jx jm : Nat} {as : List Value} {J : rf_M → Prop} (b : Bool) (h : lw_I (cx0 fz) (HK fz L xs).2 xs J true jx jm as) : lw_I (cx0 fz) (HK fz L xs).2 xs J b jx jm as := fun M hM => gx_mono (h M hM) (fun r h' ⟨z, M1, e1, e2, e3, e4⟩ => ⟨z, M1, e1, e2, e3, gx_mono e4 (fun r' h'' ⟨z', M2, f1, f2, f3, f4⟩ => ⟨z', M2, f1, f2, f3, fun _ => f4 rfl⟩)⟩)
end FIN
section FIN2
variable (fz : Bool) (L : Nat) (xs : Nat → Int32)
theorem Q_place : lw_I (cx0 fz) (HK fz L xs).2 xs (JJ fz L xs) false 56 152 [] := pr_I (fun h => cq_place fz L xs h) (fun hm hS => gx_room (W_place_m hS (fq.rfl' _) (s_place hm (fun _ _ h => h))) (Nat.le_of_ble_eq_true rfl) (Nat.le_of_ble_eq_true rfl))
theorem Q_put (a0 : Int32) (a1 : Int64) : lw_I (cx0 fz) (HK fz L xs).2 xs (JJ fz L xs) false 59 184 [.int a0, .long a1] := pr_I (fun h => cq_put fz L xs h a0 a1) (fun hm hS => by rw [← zv_i a0]; exact gx_room (W_put_m hS (fq.rfl' _) (s_put hm (fun _ _ h => h))) (Nat.le_of_ble_eq_true rfl) (Nat.le_of_ble_eq_true rfl))
theorem Q_cell (a0 : Int32) : lw_L (cx0 fz) (HK fz L xs).2 xs (JJ fz L xs) false 79 185 [.int a0] := pr_L (fun h => cq_cell fz L xs h a0) (fun hm hS => by rw [← zv_i a0]; exact gx_room (W_cell_m hS (fq.rfl' _) (s_cell hm (fun _ _ h => h))) (Nat.le_of_ble_eq_true rfl) (Nat.le_of_ble_eq_true rfl))
theorem Q_version (a0 : Int32) : lw_I (cx0 fz) (HK fz L xs).2 xs (JJ fz L xs) false 80 186 [.int a0] := pr_I (fun h => cq_version fz L xs h a0) (fun hm hS => by rw [← zv_i a0]; exact gx_room (W_version_m hS (fq.rfl' _) (s_version hm (fun _ _ h => h))) (Nat.le_of_ble_eq_true rfl) (Nat.le_of_ble_eq_true rfl))
theorem Q_add (a0 a1 : Int32) : lw_I (cx0 fz) (HK fz L xs).2 xs (JJ fz L xs) false 81 187 [.int a0, .int a1] := pr_I (fun h => cq_add fz L xs h a0 a1) (fun hm hS => by rw [← zv_i a0, ← zv_i a1]; exact gx_room (W_add_m hS (fq.rfl' _) (s_add hm (fun _ _ h => h))) (Nat.le_of_ble_eq_true rfl) (Nat.le_of_ble_eq_true rfl))
theorem Q_turn (a0 : Int32) : lw_I (cx0 fz) (HK fz L xs).2 xs (JJ fz L xs) false 84 154 [.int a0] := pr_I (fun h => cq_turn fz L xs h a0) (fun hm hS => by rw [← zv_i a0]; exact gx_room (W_turn_m hS (fq.rfl' _) (sm_turn hm (fun _ _ h => h))) (Nat.le_of_ble_eq_true rfl) (Nat.le_of_ble_eq_true rfl))
theorem Q_play (a0 : Int64) (a1 : Int32) : lw_I (cx0 fz) (HK fz L xs).2 xs (JJ fz L xs) false 108 183 [.long a0, .int a1] := pr_I (fun h => cq_play fz L xs h a0 a1) (fun hm hS => by rw [← zv_i a1]; exact gx_room (W_play_m hS (fq.rfl' _) (s_play hm (fun _ _ h => h))) (Nat.le_of_ble_eq_true rfl) (Nat.le_of_ble_eq_true rfl))
theorem Q_client (a0 a1 : Int32) : lw_I (cx0 fz) (HK fz L xs).2 xs (JJ fz L xs) false 109 188 [.int a0, .int a1] := pr_I (fun h => cq_client fz L xs h a0 a1) (fun hm hS => by rw [← zv_i a0, ← zv_i a1]; exact gx_room (W_client_m hS (fq.rfl' _) (s_client hm (fun _ _ h => h))) (Nat.le_of_ble_eq_true rfl) (Nat.le_of_ble_eq_true rfl))
theorem Q_sees (a0 a1 : Int32) : lw_L (cx0 fz) (HK fz L xs).2 xs (JJ fz L xs) false 111 189 [.int a0, .int a1] := pr_L (fun h => cq_sees fz L xs h a0 a1) (fun hm hS => by rw [← zv_i a0, ← zv_i a1]; exact gx_room (W_sees_m hS (fq.rfl' _) (s_sees hm (fun _ _ h => h))) (Nat.le_of_ble_eq_true rfl) (Nat.le_of_ble_eq_true rfl))
theorem Q_rules : lw_I (cx0 fz) (HK fz L xs).2 xs (JJ fz L xs) false 112 190 [] := pr_I (fun h => cq_rules fz L xs h) (fun hm hS => gx_room (W_rules_m hS (fq.rfl' _) (s_rules hm (fun _ _ h => h))) (Nat.le_of_ble_eq_true rfl) (Nat.le_of_ble_eq_true rfl))
theorem Q_rows : lw_I (cx0 fz) (HK fz L xs).2 xs (JJ fz L xs) false 113 191 [] := pr_I (fun h => cq_rows fz L xs h) (fun hm hS => gx_room (W_rows_m hS (fq.rfl' _) (s_rows hm (fun _ _ h => h))) (Nat.le_of_ble_eq_true rfl) (Nat.le_of_ble_eq_true rfl))
theorem Q_row (a0 a1 : Int32) : lw_I (cx0 fz) (HK fz L xs).2 xs (JJ fz L xs) false 114 192 [.int a0, .int a1] := pr_I (fun h => cq_row fz L xs h a0 a1) (fun hm hS => by rw [← zv_i a0, ← zv_i a1]; exact gx_room (W_row_m hS (fq.rfl' _) (s_row hm (fun _ _ h => h))) (Nat.le_of_ble_eq_true rfl) (Nat.le_of_ble_eq_true rfl))
theorem Q_value (a0 : Int32) : lw_L (cx0 fz) (HK fz L xs).2 xs (JJ fz L xs) false 117 193 [.int a0] := pr_L (fun h => cq_value fz L xs h a0) (fun hm hS => by rw [← zv_i a0]; exact gx_room (W_value_m hS (fq.rfl' _) (s_value hm (fun _ _ h => h))) (Nat.le_of_ble_eq_true rfl) (Nat.le_of_ble_eq_true rfl))
theorem Q_replays : lw_I (cx0 fz) (HK fz L xs).2 xs (JJ fz L xs) false 118 194 [] := pr_I (fun h => cq_replays fz L xs h) (fun hm hS => gx_room (W_replays_m hS (fq.rfl' _) (s_replays hm (fun _ _ h => h))) (Nat.le_of_ble_eq_true rfl) (Nat.le_of_ble_eq_true rfl))
theorem Q_clear : lw_I (cx0 fz) (HK fz L xs).2 xs (JJ fz L xs) false 122 197 [] := pr_I (fun h => cq_clear fz L xs h) (fun hm hS => gx_room (W_clear_m hS (fq.rfl' _) (s_clear hm (fun _ _ h => h))) (Nat.le_of_ble_eq_true rfl) (Nat.le_of_ble_eq_true rfl))
end FIN2
section FIN3
variable (fz : Bool) (L : Nat) (xs : Nat → Int32)
theorem ni_of {k : Nat} (h : k ≤ 100000) : nI k = Int32.ofInt (k : Int) := by
  refine Int32.toInt_inj.mp ?_
  rw [nI_int h, ti_ofi (inr_z (by omega) (by omega))]
theorem mI_0 {M : rf_M} {c : Nat} (hm : mIn M c) : mIn (wi M 353 0 0) c := (mQ0 hm).1
theorem mQ_fd {M M' : rf_M} {c : Nat} {P : Nat → Nat → Prop} (hm : mIn M c) (hx : eqx P M M') (hP : ∀ a k, P a k → a = 354 ∨ (a = 353 ∧ (k = 0 ∨ k = 2))) : mIn M' c := hm.eq (fun a k z => hx a k (fun w => by have := hP a k w; unfold mIc cdc at z; omega))
theorem Q_feed (a b e d g : Int32) : lw_I (cx0 fz) (HK fz L xs).2 xs (JJ fz L xs) true 13 128 [.int a, .int b, .int e, .int d, .int g] := by
  rintro M ⟨n, c, hc, hM⟩
  have h8 := hc.2.2.1.2
  have hc12 := JJ.c12 hc
  refine gx_mono (cf_feed hc a b e d g) ?_
  rintro r h' ⟨z, M1, rfl, rfl, hcase, hp, hf⟩
  have g1 : ∀ a k, 353 ≤ a → gi M1 a k = gi M a k := fun a k ha => gi_same (hf a k ha)
  have m1 : mIn M1 c := hM.1.eq (fun a k z => g1 a k (by unfold mIc cdc at z; omega))
  have r1 : ∀ q ∈ rfM, M1.2.2 353 q.1 = some q.2 := fun q hq => (hf 353 q.1 (by omega)).2.2.trans (hM.2.2.1 q hq)
  have s1 : gi M1 353 2 = (n : Int) := (g1 _ _ (by omega)).trans hM.2.1.1
  have row1 : ∀ k, M1.1 1 k = xs k := by
    rcases hcase with ⟨-, -, c1, -⟩ | ⟨-, -, c1, -⟩
    · exact c1.row
    · exact c1.row
  refine ⟨z, M1, rfl, rfl, row1, ?_⟩
  rw [← zv_i a, ← zv_i b, ← zv_i e, ← zv_i d, ← zv_i g]
  refine gx_room (gx_mono (W_feed_m (K := fun z' M2 => (n ≤ 780 ∧ z' = ((n + 20 : Nat) : Int) ∧ eqx (fdw n 20) M1 M2 ∧ gi M2 353 2 = ((n + 20 : Nat) : Int) ∧ ∀ t, t < 20 → (Int32.ofInt (gi M2 354 (n + t)) &&& Int32.ofInt 255).toInt = (fb5 a b e d g t).toInt) ∨ (780 < n ∧ z' = -1 ∧ M2 = wi M1 353 0 0)) (rk_HK r1) (fq.rfl' _) (s_feed s1 h8 (fun w M2 x2 t2 b2 => Or.inl ⟨w, rfl, x2, t2, b2⟩) (fun w => Or.inr ⟨w, rfl, rfl⟩))) ?_) (Nat.le_of_ble_eq_true rfl) (Nat.le_of_ble_eq_true rfl)
  rintro r' h'' ⟨z', M2, rfl, rfl, f2, hK⟩
  have cnt : ∀ {P : Nat → Nat → Prop}, eqx P M1 M2 → (∀ a k, P a k → a = 354 ∨ (a = 353 ∧ (k = 0 ∨ k = 2))) → ∀ i, i < c → gi M2 355 i = (M2.1 (25 + 12 * i) 0).toInt ∧ gi M2 356 i = (M2.1 (25 + 12 * i) 1).toInt ∧ gi M2 357 i = (M2.1 (25 + 12 * i) 2).toInt := fun hx hP i hi => by
    have q : ∀ a k, a = 355 ∨ a = 356 ∨ a = 357 → gi M2 a k = gi M a k := fun a k w => (hx a k (fun w2 => by have := hP a k w2; omega)).trans (g1 a k (by omega))
    rw [q 355 i (by omega), q 356 i (by omega), q 357 i (by omega), (f2.2 (25 + 12 * i) 0 (by omega)).1, (f2.2 (25 + 12 * i) 1 (by omega)).1, (f2.2 (25 + 12 * i) 2 (by omega)).1, hp i 0 (by omega), hp i 1 (by omega), hp i 2 (by omega)]
    exact hM.2.2.2 i hi
  rcases hcase with ⟨w1, rfl, c1, b1, o1⟩ | ⟨w1, rfl, c1, o1⟩
  · rcases hK with ⟨-, rfl, x2, t2, b2⟩ | ⟨w2, -⟩
    · have hP : ∀ a k, fdw n 20 a k → a = 354 ∨ (a = 353 ∧ (k = 0 ∨ k = 2)) := fun a k w => by unfold fdw at w; omega
      refine ⟨_, M2, rfl, rfl, ⟨n + 20, c, c1.fq f2, mQ_fd m1 x2 hP, ⟨t2, by omega, fun k hk => ?_⟩, fun q hq => by rw [f2.1]; exact r1 q hq, cnt x2 hP⟩, fun _ => ni_of (by omega)⟩
      rw [(f2.2 23 k (by omega)).1]
      by_cases hkn : k < n
      · rw [x2 354 k (by unfold fdw; omega), g1 354 k (by omega), o1 k hkn]
        exact hM.2.1.2.2 k hkn
      · obtain ⟨t, rfl⟩ : ∃ t, k = n + t := ⟨k - n, by omega⟩
        rw [b2 t (by omega), b1 t (by omega)]
        exact ⟨rfl, fb5_le _ _ _ _ _ _⟩
    · omega
  · rcases hK with ⟨w2, -⟩ | ⟨-, rfl, e2⟩
    · omega
    · have x2 : eqx (fun a k => a = 353 ∧ k = 0) M1 M2 := by rw [e2]; exact (eqx.rfl' M1).wi ⟨rfl, rfl⟩
      refine ⟨_, M2, rfl, rfl, ⟨n, c, c1.fq f2, by rw [e2]; exact mI_0 m1, ⟨(x2 _ _ (by omega)).trans s1, h8, fun k hk => ?_⟩, fun q hq => by rw [f2.1]; exact r1 q hq, cnt x2 (fun a k w => Or.inr ⟨w.1, Or.inl w.2⟩)⟩, fun _ => rfl⟩
      rw [(f2.2 23 k (by omega)).1, x2 354 k (by omega), g1 354 k (by omega), o1 k]
      exact hM.2.1.2.2 k hk
theorem Q_end (x : Int32) : lw_I (cx0 fz) (HK fz L xs).2 xs (JJ fz L xs) true 15 129 [.int x] := by
  rintro M ⟨n, c, hc, hM⟩
  have h8 := hc.2.2.1.2
  have hc12 := JJ.c12 hc
  refine gx_mono (cf_end hc x) ?_
  rintro r h' ⟨z, M1, rfl, rfl, hcase, h23, hp, hf⟩
  have h1 := hM.prog hc12 hf h23 hp
  have row1 : ∀ k, M1.1 1 k = xs k := by
    rcases hcase with ⟨-, -, c1⟩ | ⟨-, -, c1⟩
    · exact c1.row
    · exact c1.row
  refine ⟨z, M1, rfl, rfl, row1, ?_⟩
  rw [← zv_i x]
  refine gx_room (gx_mono (W_end_m (K := fun z' M2 => eqx (fun a k => a = 353 ∧ (k = 0 ∨ k = 2)) M1 M2 ∧ (((0 ≤ x.toInt ∧ x.toInt ≤ 20 ∧ 20 ≤ n) ∧ z' = ((n - 20 + x.toInt.toNat : Nat) : Int) ∧ gi M2 353 2 = ((n - 20 + x.toInt.toNat : Nat) : Int)) ∨ (¬ (0 ≤ x.toInt ∧ x.toInt ≤ 20 ∧ 20 ≤ n) ∧ z' = -1 ∧ gi M2 353 2 = (n : Int)))) (rk_HK h1.2.2.1) (fq.rfl' _) (s_end h1.2.1.1 h8 (fun w M2 x2 t2 => ⟨x2, Or.inl ⟨w, rfl, t2⟩⟩) (fun w => ⟨(eqx.rfl' M1).wi ⟨rfl, Or.inl rfl⟩, Or.inr ⟨w, rfl, (gi_of (by omega)).trans h1.2.1.1⟩⟩))) ?_) (Nat.le_of_ble_eq_true rfl) (Nat.le_of_ble_eq_true rfl)
  rintro r' h'' ⟨z', M2, rfl, rfl, f2, x2, hK⟩
  have fin : ∀ n' : Nat, n' ≤ n → gi M2 353 2 = (n' : Int) → mJ M2 n' c := fun n' hn' t2 => by
    refine ⟨mQ_fd h1.1 x2 (fun a k w => Or.inr w), ⟨t2, by omega, fun k hk => ?_⟩, fun q hq => by rw [f2.1]; exact h1.2.2.1 q hq, fun i hi => ?_⟩
    · rw [(f2.2 23 k (by omega)).1, x2 354 k (by omega)]
      exact h1.2.1.2.2 k (by omega)
    · rw [x2 355 i (by omega), x2 356 i (by omega), x2 357 i (by omega), (f2.2 (25 + 12 * i) 0 (by omega)).1, (f2.2 (25 + 12 * i) 1 (by omega)).1, (f2.2 (25 + 12 * i) 2 (by omega)).1]
      exact h1.2.2.2 i hi
  rcases hcase with ⟨w1, rfl, c1⟩ | ⟨w1, rfl, c1⟩
  · rcases hK with ⟨-, rfl, t2⟩ | ⟨w2, -⟩
    · exact ⟨_, M2, rfl, rfl, ⟨_, c, c1.fq f2, fin _ (by omega) t2⟩, fun _ => ni_of (by omega)⟩
    · exact absurd w1 w2
  · rcases hK with ⟨w2, -⟩ | ⟨-, rfl, t2⟩
    · exact absurd w2 w1
    · exact ⟨_, M2, rfl, rfl, ⟨n, c, c1.fq f2, fin n (Nat.le_refl _) t2⟩, fun _ => rfl⟩
theorem Q_told (a w : Int32) : lw_I (cx0 fz) (HK fz L xs).2 xs (JJ fz L xs) true 57 153 [.int a, .int w] := by
  rintro M ⟨n, c, hc, hM⟩
  have hc12 := JJ.c12 hc
  refine gx_mono (cf_told hc a w) ?_
  rintro r h' ⟨rfl, rfl⟩
  refine ⟨_, M, rfl, rfl, hc.row, ?_⟩
  rw [← zv_i a, ← zv_i w]
  refine gx_room (gx_mono (W_told_m (K := fun z' M2 => mQ c M M2 ∧ z' = (if 0 ≤ a.toInt ∧ a.toInt < (c : Int) then (if w.toInt = 0 then gi M 355 a.toInt.toNat else if w.toInt = 1 then gi M 356 a.toInt.toNat else if w.toInt = 2 then gi M 357 a.toInt.toNat else -1) else -1)) (rk_HK hM.2.2.1) (fq.rfl' _) (s_told hM.1 (fun M2 q2 => ⟨q2, rfl⟩))) ?_) (Nat.le_of_ble_eq_true rfl) (Nat.le_of_ble_eq_true rfl)
  rintro r' h'' ⟨z', M2, rfl, rfl, f2, q2, rfl⟩
  refine ⟨_, M2, rfl, rfl, ⟨n, c, hc.fq f2, hM.model hc12 f2 q2⟩, fun _ => ?_⟩
  unfold ct_told
  split
  · rename_i hin
    obtain ⟨e0, e1, e2⟩ := hM.2.2.2 a.toInt.toNat (by omega)
    rw [e0, e1, e2]
    split
    · rw [ofi_ti]
    · split
      · rw [ofi_ti]
      · split
        · rw [ofi_ti]
        · rfl
  · rfl
theorem Q_text : lw_I (cx0 fz) (HK fz L xs).2 xs (JJ fz L xs) true 16 130 [] := by
  rintro M ⟨n, c, hc, hM⟩
  have hc12 := JJ.c12 hc
  refine gx_mono (cf_text hc) ?_
  rintro r h' ⟨z, M1, rfl, rfl, hcase, hp, hf⟩
  have g1 : ∀ a k, 353 ≤ a → gi M1 a k = gi M a k := fun a k ha => gi_same (hf a k ha)
  have m1 : mIn M1 c := hM.1.eq (fun a k z => g1 a k (by unfold mIc cdc at z; omega))
  have r1 : ∀ q ∈ rfM, M1.2.2 353 q.1 = some q.2 := fun q hq => (hf 353 q.1 (by omega)).2.2.trans (hM.2.2.1 q hq)
  have tp1 : tp M1 n (M.1 23) := ⟨(g1 _ _ (by omega)).trans hM.2.1.1, hM.2.1.2.1, fun k hk => by rw [g1 354 k (by omega)]; exact hM.2.1.2.2 k hk⟩
  have row1 : ∀ k, M1.1 1 k = xs k := by
    rcases hcase with ⟨-, -, c1, -⟩ | ⟨-, -, -, c1, -⟩ | ⟨-, -, -, c1⟩
    · exact c1.row
    · exact c1.row
    · exact c1.row
  refine ⟨z, M1, rfl, rfl, row1, ?_⟩
  refine gx_room (gx_mono (W_text_m (K := fun z' M2 => (c = 12 ∧ z' = -1 ∧ M2 = wi M1 353 0 0) ∨ (c < 12 ∧ (p_all (p_T (M.1 23) n)).2.2.2.2.2 = true ∧ z' = (c : Int) ∧ eqx (txw c) M1 M2 ∧ gi M2 353 11 = (c : Int) + 1 ∧ gi M2 353 2 = 0 ∧ (∀ t, t < c + 1 → txo M2 t) ∧ gi M2 355 c = ((p_all (p_T (M.1 23) n)).2.2.1 : Int) ∧ gi M2 356 c = ((p_all (p_T (M.1 23) n)).2.2.2.1 : Int) ∧ gi M2 357 c = ((p_all (p_T (M.1 23) n)).2.2.2.2.1 : Int)) ∨ (c < 12 ∧ (p_all (p_T (M.1 23) n)).2.2.2.2.2 = false ∧ z' = -2 ∧ eqx (txw c) M1 M2 ∧ gi M2 353 11 = (c : Int) ∧ gi M2 353 2 = 0 ∧ ∀ t, t < c → txo M2 t)) (rk_HK r1) (fq.rfl' _) (s_text m1.2.1 hc12 tp1 m1.1.2 (fun w => Or.inl ⟨w, rfl, rfl⟩) (fun w1 w2 M2 x2 t2 s2 o2 u0 u1 u2 => Or.inr (Or.inl ⟨w1, w2, rfl, x2, t2, s2, o2, u0, u1, u2⟩)) (fun w1 w2 M2 x2 t2 s2 o2 => Or.inr (Or.inr ⟨w1, w2, rfl, x2, t2, s2, o2⟩)))) ?_) (Nat.le_of_ble_eq_true rfl) (Nat.le_of_ble_eq_true rfl)
  rintro r' h'' ⟨z', M2, rfl, rfl, f2, hK⟩
  -- the other parts of the invariant
  have rest : eqx (txw c) M1 M2 → ∀ c' : Nat, c ≤ c' → c' ≤ 12 → gi M2 353 11 = (c' : Int) → (∀ t, t < c' → txo M2 t) → mIn M2 c' := by
    intro x2 c' hcc hc' t2 o2
    obtain ⟨k1, k2, ⟨rc, k3, k3', k3''⟩, k4, k5, ⟨rw, k6, k6', k6''⟩⟩ := m1
    have q : ∀ a k, (376 ≤ a ∨ (a = 353 ∧ k = 69)) → gi M2 a k = gi M1 a k := fun a k w => x2 a k (by unfold txw tew; omega)
    refine ⟨⟨hc', o2⟩, t2, ⟨rc, (q _ _ (by omega)).trans k3, k3', fun k hk => ?_⟩, fun l hl => ?_, k5.eq (fun k => q _ _ (by omega)), ⟨rw, (q _ _ (by omega)).trans k6, k6', fun i hi => ?_⟩⟩
    · rw [q 379 _ (by omega)]
      obtain ⟨e, t, cc, j1, j2, j3, j4, kk, j5, j6, j7, j8⟩ := k3'' k hk
      have qt : ∀ a k, txk t a k → gi M2 a k = gi M1 a k := fun a k w => x2 a k (txw_tx w j2)
      have qt' : ∀ a k, (355 ≤ a ∧ a ≤ 359 ∧ k = t) ∨ (360 ≤ a ∧ a ≤ 367 ∧ 40 * t ≤ k ∧ k < 40 * t + 40) ∨ ((a = 368 ∨ a = 369) ∧ 200 * t ≤ k ∧ k < 200 * t + 200) → gi M2 a k = gi M1 a k := qt
      refine ⟨e, t, cc, j1, by omega, (qt' _ _ (by omega)).trans j3, j4, kk, j5, j6, ?_, (qt' _ _ (by omega)).trans j8⟩
      rw [wd_congr (A := gi M1 368) (B := gi M1 369) _ (fun t' ht => ⟨qt' _ _ (by omega), qt' _ _ (by omega)⟩)]
      exact j7
    · obtain ⟨q0, b1, b2, b3⟩ := k4 l hl
      refine ⟨q0, (q _ _ (by omega)).trans b1, b2, fun k hk => ?_⟩
      obtain ⟨t, t1, t2'⟩ := b3 k hk
      exact ⟨t, (q _ _ (by omega)).trans t1, by omega⟩
    · obtain ⟨x, y1, y2⟩ := k6'' i hi
      refine ⟨x, (q _ _ (by omega)).trans y1, ?_⟩
      rw [q 400 i (by omega)]
      rcases y2 with w | w
      · exact Or.inl w
      · exact Or.inr ⟨w.1, by omega⟩
  have old : eqx (txw c) M1 M2 → ∀ i, i < c → gi M2 355 i = (M2.1 (25 + 12 * i) 0).toInt ∧ gi M2 356 i = (M2.1 (25 + 12 * i) 1).toInt ∧ gi M2 357 i = (M2.1 (25 + 12 * i) 2).toInt := fun x2 i hi => by
    have q : ∀ a k, (a = 355 ∨ a = 356 ∨ a = 357) → k = i → gi M2 a k = gi M a k := fun a k w w2 => (x2 a k (by unfold txw tew; omega)).trans (g1 a k (by omega))
    rw [q 355 i (by omega) rfl, q 356 i (by omega) rfl, q 357 i (by omega) rfl, (f2.2 (25 + 12 * i) 0 (by omega)).1, (f2.2 (25 + 12 * i) 1 (by omega)).1, (f2.2 (25 + 12 * i) 2 (by omega)).1, hp i 0 hi, hp i 1 hi, hp i 2 hi]
    exact hM.2.2.2 i hi
  have tp0 : gi M2 353 2 = 0 → tp M2 0 (M2.1 23) := fun w => ⟨w, by omega, fun k hk => absurd hk (Nat.not_lt_zero _)⟩
  rcases hcase with ⟨w1, rfl, c1, o1⟩ | ⟨w1, v1, rfl, c1, u0, u1, u2⟩ | ⟨w1, v1, rfl, c1⟩
  · rcases hK with ⟨-, rfl, e2⟩ | ⟨w2, -⟩ | ⟨w2, -⟩
    · have x2 : eqx (fun a k => a = 353 ∧ k = 0) M1 M2 := by rw [e2]; exact (eqx.rfl' M1).wi ⟨rfl, rfl⟩
      refine ⟨_, M2, rfl, rfl, ⟨n, c, c1.fq f2, by rw [e2]; exact mI_0 m1, ⟨(x2 _ _ (by omega)).trans tp1.1, tp1.2.1, fun k hk => ?_⟩, fun q hq => by rw [f2.1]; exact r1 q hq, old (x2.mono (fun a k w => Or.inr ⟨w.1, Or.inl w.2⟩))⟩, fun _ => rfl⟩
      rw [(f2.2 23 k (by omega)).1, x2 354 k (by omega), o1 k]
      exact tp1.2.2 k hk
    · omega
    · omega
  · rcases hK with ⟨w2, -⟩ | ⟨-, -, rfl, x2, t2, s2, o2, n0, n1, n2⟩ | ⟨-, v2, -⟩
    · omega
    · refine ⟨_, M2, rfl, rfl, ⟨0, c + 1, c1.fq f2, rest x2 (c + 1) (by omega) (by omega) (by rw [t2]; omega) o2, tp0 s2, fun q hq => by rw [f2.1]; exact r1 q hq, fun i hi => ?_⟩, fun _ => ni_of (by omega)⟩
      by_cases hic : i = c
      · have big : ∀ {k : Nat} {z : Int}, z = (k : Int) → inr z → (nI k).toInt = (k : Int) := fun {k z} e i => by
          unfold nI
          exact Int32.toInt_ofNat_of_lt (by have := i.2; omega)
        rw [hic, (f2.2 (25 + 12 * c) 0 (by omega)).1, (f2.2 (25 + 12 * c) 1 (by omega)).1, (f2.2 (25 + 12 * c) 2 (by omega)).1, u0, u1, u2, big n0 (inr_gi _ _ _), big n1 (inr_gi _ _ _), big n2 (inr_gi _ _ _)]
        exact ⟨n0, n1, n2⟩
      · exact old x2 i (by omega)
    · rw [v1] at v2; cases v2
  · rcases hK with ⟨w2, -⟩ | ⟨-, v2, -⟩ | ⟨-, -, rfl, x2, t2, s2, o2⟩
    · omega
    · rw [v1] at v2; cases v2
    · exact ⟨_, M2, rfl, rfl, ⟨0, c, c1.fq f2, rest x2 c (Nat.le_refl _) hc12 t2 o2, tp0 s2, fun q hq => by rw [f2.1]; exact r1 q hq, old x2⟩, fun _ => rfl⟩
theorem z0_ : ∀ fz : Bool, ([(353, 2), (353, 11), (353, 69), (378, 0), (381, 0), (381, 1), (381, 2), (381, 3), (381, 4), (381, 5), (381, 6), (381, 7), (383, 0), (383, 1), (383, 2), (383, 3), (383, 4), (383, 5), (383, 6), (383, 7)] : List (Nat × Nat)).all (fun q => decide ((K2 fz).1.1 q.1 q.2 = 0)) = true := by
  intro fz
  cases fz <;> decide +kernel
theorem rfM_K : ∀ q ∈ rfM, (353, q.1, q.2) ∈ rfK := by decide +kernel
theorem JJ_0 : JJ fz L xs (HK fz L xs).1 := by
  refine ⟨0, 0, cJ_0 fz L xs, ?_⟩
  have z : ∀ a k, (a, k) ∈ ([(353, 2), (353, 11), (353, 69), (378, 0), (381, 0), (381, 1), (381, 2), (381, 3), (381, 4), (381, 5), (381, 6), (381, 7), (383, 0), (383, 1), (383, 2), (383, 3), (383, 4), (383, 5), (383, 6), (383, 7)] : List (Nat × Nat)) → 1 < a → gi (HK fz L xs).1 a k = 0 := fun a k hm ha => by
    have := List.all_eq_true.mp (z0_ fz) (a, k) hm
    simp only [decide_eq_true_eq] at this
    unfold gi
    rw [HK_i fz L xs a k ha, this]
    rfl
  have l8 : ∀ l, l < 8 → (381, l) ∈ ([(353, 2), (353, 11), (353, 69), (378, 0), (381, 0), (381, 1), (381, 2), (381, 3), (381, 4), (381, 5), (381, 6), (381, 7), (383, 0), (383, 1), (383, 2), (383, 3), (383, 4), (383, 5), (383, 6), (383, 7)] : List (Nat × Nat)) ∧ (383, l) ∈ ([(353, 2), (353, 11), (353, 69), (378, 0), (381, 0), (381, 1), (381, 2), (381, 3), (381, 4), (381, 5), (381, 6), (381, 7), (383, 0), (383, 1), (383, 2), (383, 3), (383, 4), (383, 5), (383, 6), (383, 7)] : List (Nat × Nat)) := by decide
  refine ⟨⟨⟨by omega, fun t ht => absurd ht (Nat.not_lt_zero _)⟩, z 353 11 (by decide) (by omega), ⟨0, z 378 0 (by decide) (by omega), by omega, fun k hk => absurd hk (Nat.not_lt_zero _)⟩, fun l hl => ⟨0, z 381 l (l8 l hl).1 (by omega), by omega, fun k hk => absurd hk (Nat.not_lt_zero _)⟩, fun l hl => ⟨0, z 383 l (l8 l hl).2 (by omega), by omega⟩, ⟨0, z 353 69 (by decide) (by omega), by omega, fun k hk => absurd hk (Nat.not_lt_zero _)⟩⟩, ⟨z 353 2 (by decide) (by omega), by omega, fun k hk => absurd hk (Nat.not_lt_zero _)⟩, fun q hq => ?_, fun i hi => absurd hi (Nat.not_lt_zero _)⟩
  have hr := List.all_eq_true.mp (K2_rf fz) (353, q.1, q.2) (rfM_K q hq)
  simp only [decide_eq_true_eq] at hr
  rw [HK_r]
  exact hr
end FIN3
