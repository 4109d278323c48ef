/-! THE PAIRS, EXACTLY -/
def trnF (z : Int) (Ts : tsT) (_ : Nat) (S : syT) : Int × syT := if 0 ≤ z ∧ z < 8 then trn Ts S z.toNat else (-1, S)
def plyF (s : Int64) (n : Int) (Ts : tsT) (_ : Nat) (S : syT) : Int × syT := if 0 ≤ n ∧ n ≤ 2000 then plyS Ts n.toNat s 0 S else (-1, S)
theorem SI_trnF {z : Int} {Ts : tsT} {c : Nat} {S : syT} (h : SI Ts c S) : SI Ts c (trnF z Ts c S).2 := by
  unfold trnF
  split
  · exact SI_trn h (by omega)
  · exact h
theorem SI_plyF {s : Int64} {n : Int} {Ts : tsT} {c : Nat} {S : syT} (h : SI Ts c S) : SI Ts c (plyF s n Ts c S).2 := by
  unfold plyF
  split
  · exact SI_ply _ _ _ _ h
  · exact h
section GP
variable (fz : Bool) (L : Nat) (xs : Nat → Int32) (b' : Bool)
theorem G_put (a0 : Int32) (a1 : Int64) : lw_I (cx0 fz) (HK fz L xs).2 xs (JF fz L xs) b' 59 184 [.int a0, .long a1] :=
  up_FI (fun Ts _ S => putS Ts S a0.toInt a1) (Q_put fz L xs a0 a1) (fun _ _ _ h => SI_put h) (fun h => cq_put fz L xs h a0 a1)
    (fun M Ts c S n0 hS hP hL g22 hV hk => by rw [← zv_i a0]; exact hx31 hL (H_M_put_m (rl_HK fz L xs) (fl.rfl' hk) (inr_ti a0) (x_put hS hP (fun M' h => ⟨rfl, h⟩))))
    (fun M Ts c S n0 hS hR g11 hV hk => by rw [← zv_i a0]; exact E_W_put_m (rl_HK fz L xs) (fl.rfl' hk) (inr_ti a0) (y_put hS hR (fun M' h => ⟨fun _ => rfl, h⟩)))
theorem G_version (a0 : Int32) : lw_I (cx0 fz) (HK fz L xs).2 xs (JF fz L xs) b' 80 186 [.int a0] :=
  up_FI (fun _ _ S => (verS S a0.toInt, S)) (Q_version fz L xs a0) (fun _ _ _ h => h) (fun h => cq_version fz L xs h a0)
    (fun M Ts c S n0 hS hP hL g22 hV hk => by rw [← zv_i a0]; exact hx31 hL (H_M_version_m (rl_HK fz L xs) (fl.rfl' hk) (inr_ti a0) (x_version hP ⟨rfl, hP⟩)))
    (fun M Ts c S n0 hS hR g11 hV hk => by rw [← zv_i a0]; exact E_W_version_m (rl_HK fz L xs) (fl.rfl' hk) (inr_ti a0) (y_version hS hR (fun M' h => ⟨fun _ => rfl, h⟩)))
theorem G_add (a0 a1 : Int32) : lw_I (cx0 fz) (HK fz L xs).2 xs (JF fz L xs) b' 81 187 [.int a0, .int a1] :=
  up_FI (fun _ c S => addS c S a0.toInt a1.toInt) (Q_add fz L xs a0 a1) (fun _ _ _ h => SI_add h) (fun h => cq_add fz L xs h a0 a1)
    (fun M Ts c S n0 hS hP hL g22 hV hk => by rw [← zv_i a0, ← zv_i a1]; exact hx31 hL (H_M_add_m (rl_HK fz L xs) (fl.rfl' hk) (inr_ti a0) (inr_ti a1) (x_add hS hP g22 (fun M' h => ⟨rfl, h⟩))))
    (fun M Ts c S n0 hS hR g11 hV hk => by rw [← zv_i a0, ← zv_i a1]; exact E_W_add_m (rl_HK fz L xs) (fl.rfl' hk) (inr_ti a0) (inr_ti a1) (y_add hS hR g11 (fun M' h => ⟨fun _ => rfl, h⟩)))
theorem G_turn (a0 : Int32) : lw_I (cx0 fz) (HK fz L xs).2 xs (JF fz L xs) b' 84 154 [.int a0] :=
  up_FI (trnF a0.toInt) (Q_turn fz L xs a0) (fun _ _ _ h => SI_trnF h) (fun h => cq_turn fz L xs h a0)
    (fun M Ts c S n0 hS hP hL g22 hV hk => by rw [← zv_i a0]; exact hx31 hL (H_M_turn_m (rl_HK fz L xs) (fl.rfl' hk) (inr_ti a0) (x_turn hS hP (fun w M' h => by unfold trnF; rw [if_pos w]; exact ⟨rfl, h⟩) (fun w => by unfold trnF; rw [if_neg w]; exact ⟨rfl, hP⟩))))
    (fun M Ts c S n0 hS hR g11 hV hk => by rw [← zv_i a0]; exact E_W_turn_m (rl_HK fz L xs) (fl.rfl' hk) (inr_ti a0) (y_turn hS hR (fun w M' h => by unfold trnF; rw [if_pos w]; exact ⟨fun _ => rfl, h⟩) (fun w M' h => by unfold trnF; rw [if_neg w]; exact ⟨fun _ => rfl, h⟩)))
theorem G_play (a0 : Int64) (a1 : Int32) : lw_I (cx0 fz) (HK fz L xs).2 xs (JF fz L xs) b' 108 183 [.long a0, .int a1] :=
  up_FI (plyF a0 a1.toInt) (Q_play fz L xs a0 a1) (fun _ _ _ h => SI_plyF h) (fun h => cq_play fz L xs h a0 a1)
    (fun M Ts c S n0 hS hP hL g22 hV hk => by rw [← zv_i a1]; exact hx31 hL (H_M_play_m (rl_HK fz L xs) (fl.rfl' hk) (inr_ti a1) (x_play hS hP (fun w M' h => by unfold plyF; rw [if_pos w]; exact ⟨rfl, h⟩) (fun w => by unfold plyF; rw [if_neg w]; exact ⟨rfl, hP⟩))))
    (fun M Ts c S n0 hS hR g11 hV hk => by rw [← zv_i a1]; exact E_W_play_m (rl_HK fz L xs) (fl.rfl' hk) (inr_ti a1) (y_play hS hR (fun w M' h => by unfold plyF; rw [if_pos w]; exact ⟨fun _ => rfl, h⟩) (fun w M' h => by unfold plyF; rw [if_neg w]; exact ⟨fun _ => rfl, h⟩)))
theorem G_rules : lw_I (cx0 fz) (HK fz L xs).2 xs (JF fz L xs) b' 112 190 [] :=
  up_FI (fun _ _ S => ((S.2.1.length : Int), S)) (Q_rules fz L xs) (fun _ _ _ h => h) (fun h => cq_rules fz L xs h)
    (fun M Ts c S n0 hS hP hL g22 hV hk => hx31 hL (H_M_rules_m (rl_HK fz L xs) (fl.rfl' hk) (x_rules hP ⟨rfl, hP⟩)))
    (fun M Ts c S n0 hS hR g11 hV hk => E_W_rules_m (rl_HK fz L xs) (fl.rfl' hk) (y_rules hS hR (fun M' h => ⟨fun _ => rfl, h⟩)))
theorem G_rows : lw_I (cx0 fz) (HK fz L xs).2 xs (JF fz L xs) b' 113 191 [] :=
  up_FI (fun _ _ S => ((S.2.2.2.length : Int), S)) (Q_rows fz L xs) (fun _ _ _ h => h) (fun h => cq_rows fz L xs h)
    (fun M Ts c S n0 hS hP hL g22 hV hk => hx31 hL (H_M_rows_m (rl_HK fz L xs) (fl.rfl' hk) (x_rows hP ⟨rfl, hP⟩)))
    (fun M Ts c S n0 hS hR g11 hV hk => E_W_rows_m (rl_HK fz L xs) (fl.rfl' hk) (y_rows hS hR (fun M' h => ⟨fun _ => rfl, h⟩)))
theorem G_row (a0 a1 : Int32) : lw_I (cx0 fz) (HK fz L xs).2 xs (JF fz L xs) b' 114 192 [.int a0, .int a1] :=
  up_FI (fun _ _ S => (rowS S a0.toInt a1.toInt, S)) (Q_row fz L xs a0 a1) (fun _ _ _ h => h) (fun h => cq_row fz L xs h a0 a1)
    (fun M Ts c S n0 hS hP hL g22 hV hk => by rw [← zv_i a0, ← zv_i a1]; exact hx31 hL (H_M_row_m (rl_HK fz L xs) (fl.rfl' hk) (inr_ti a0) (inr_ti a1) (x_row hS hP ⟨rfl, hP⟩)))
    (fun M Ts c S n0 hS hR g11 hV hk => by rw [← zv_i a0, ← zv_i a1]; exact E_W_row_m (rl_HK fz L xs) (fl.rfl' hk) (inr_ti a0) (inr_ti a1) (y_row hS hR (fun M' h => ⟨fun _ => rfl, h⟩)))
theorem G_cell (a0 : Int32) : lw_L (cx0 fz) (HK fz L xs).2 xs (JF fz L xs) b' 79 185 [.int a0] :=
  up_FL (fun S => celS S a0.toInt) (Q_cell fz L xs a0) (fun h => cq_cell fz L xs h a0)
    (fun M Ts c S n0 hS hP hL hk => by rw [← zv_i a0]; exact hx31L hL (H_M_cell_m (rl_HK fz L xs) (fl.rfl' hk) (inr_ti a0) (x_cell hP ⟨rfl, hP⟩)))
    (fun M Ts c S n0 hS hR hk => by rw [← zv_i a0]; exact E_W_cell_m (rl_HK fz L xs) (fl.rfl' hk) (inr_ti a0) (y_cell hS hR (fun M' h => ⟨rfl, h⟩)))
theorem G_value (a0 : Int32) : lw_L (cx0 fz) (HK fz L xs).2 xs (JF fz L xs) b' 117 193 [.int a0] :=
  up_FL (fun S => valS S a0.toInt) (Q_value fz L xs a0) (fun h => cq_value fz L xs h a0)
    (fun M Ts c S n0 hS hP hL hk => by rw [← zv_i a0]; exact hx31L hL (H_M_value_m (rl_HK fz L xs) (fl.rfl' hk) (inr_ti a0) (x_value hS hP ⟨rfl, hP⟩)))
    (fun M Ts c S n0 hS hR hk => by rw [← zv_i a0]; exact E_W_value_m (rl_HK fz L xs) (fl.rfl' hk) (inr_ti a0) (y_value hS hR (fun M' h => ⟨rfl, h⟩)))
theorem G_sees (a0 a1 : Int32) : lw_L (cx0 fz) (HK fz L xs).2 xs (JF fz L xs) b' 111 189 [.int a0, .int a1] :=
  up_FL (fun S => seesS S a0.toInt a1.toInt) (Q_sees fz L xs a0 a1) (fun h => cq_sees fz L xs h a0 a1)
    (fun M Ts c S n0 hS hP hL hk => by rw [← zv_i a0, ← zv_i a1]; exact hx31L hL (H_M_sees_m (rl_HK fz L xs) (fl.rfl' hk) (inr_ti a0) (inr_ti a1) (x_sees hS hP ⟨rfl, hP⟩)))
    (fun M Ts c S n0 hS hR hk => by rw [← zv_i a0, ← zv_i a1]; exact E_W_sees_m (rl_HK fz L xs) (fl.rfl' hk) (inr_ti a0) (inr_ti a1) (y_sees hS hR (fun M' h => ⟨rfl, h⟩)))
theorem G_clear : lw_I (cx0 fz) (HK fz L xs).2 xs (JF fz L xs) b' 122 197 [] :=
  up_FI (fun _ _ S => clrS S) (Q_clear fz L xs) (fun _ _ _ h => SI_clr h) (fun h => cq_clear fz L xs h)
    (fun M Ts c S n0 hS hP hL g22 hV hk => by
      refine lx_mono (lx_and (E_M_clear_m (K := fun z M' => z = (clrS S).1 ∧ RPS M' Ts c (clrS S).2) (rl_HK fz L xs) (fl.rfl' hk) (x_clear hS hP (fun M' h => ⟨rfl, h⟩))) (E_M_clear_m (K := fun _ M' => RPL M' Ts c) (rl_HK fz L xs) (fl.rfl' hk) (x_clearL (fun _ M' h => h)))) ?_
      rintro r h' ⟨⟨z, M', e1, e2, f, iz, q1, q2⟩, z0, M0, e3, e4, -, -, q3⟩
      have em : M0 = M' := (Prod.mk.inj (e4.symm.trans e2)).1
      rw [em] at q3
      exact ⟨z, M', e1, e2, f, iz, fun _ => q1, q2, q3⟩)
    (fun M Ts c S n0 hS hR g11 hV hk => E_W_clear_m (rl_HK fz L xs) (fl.rfl' hk) (y_clear hS hR (fun M' h => ⟨fun _ => rfl, h⟩)))
theorem G_replays : lw_I (cx0 fz) (HK fz L xs).2 xs (JF fz L xs) false 118 194 [] :=
  up_FI (fun _ _ S => (0, S)) (Q_replays fz L xs) (fun _ _ _ h => h) (fun h => cq_replays fz L xs h)
    (fun M Ts c S n0 hS hP hL g22 hV hk => E_M_replays_m (rl_HK fz L xs) (fl.rfl' hk) (x_replays hS hV ⟨hP, hL⟩ (fun z M' h => ⟨fun w => absurd w (by decide), h.1, h.2⟩)))
    (fun M Ts c S n0 hS hR g11 hV hk => E_W_replays_m (rl_HK fz L xs) (fl.rfl' hk) (y_replays hS hV hR (fun z M' h => ⟨fun w => absurd w (by decide), h⟩)))
end GP
