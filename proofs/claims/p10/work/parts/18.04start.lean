def ml_no (e : rf_E1) : Bool := e.2.2.all (fun q => q.2.1.2.all (fun z => !(z.1 == -1000) && !(z.1 == 999)))
theorem ml0_no (fz : Bool) : (ml0 fz).all ml_no = true := by cases fz <;> decide +kernel
theorem cx0_no (fz : Bool) : pt_no (cx0 fz) := by
  refine ⟨show 1 < 22 from Nat.le_of_ble_eq_true rfl, fun i pc I h q hq => ?_⟩
  have h0 : (((ml0 fz).getD i rf_dm).2.2.find? (fun q => q.1 == pc)).map (fun q => q.2.1) = some I := h
  obtain ⟨e, he, heI⟩ := Option.map_eq_some_iff.mp h0
  have hmem := List.mem_of_find?_eq_some he
  have hi : i < (ml0 fz).length := by
    rcases Nat.lt_or_ge i (ml0 fz).length with z | z
    · exact z
    · have h9 : (ml0 fz).getD i rf_dm = rf_dm := by simp [List.getD_eq_getElem?_getD, List.getElem?_eq_none z]
      rw [h9] at hmem
      cases hmem
  have hin : (ml0 fz).getD i rf_dm ∈ ml0 fz := by
    rw [List.getD_eq_getElem?_getD, List.getElem?_eq_getElem hi]
    exact List.getElem_mem hi
  have h1 := List.all_eq_true.mp (ml0_no fz) _ hin
  have h2 := List.all_eq_true.mp h1 _ hmem
  have h3 := List.all_eq_true.mp h2 q (by rw [heI]; exact hq)
  simp only [Bool.and_eq_true, Bool.not_eq_true', beq_eq_false_iff_ne] at h3
  exact ⟨h3.1, h3.2⟩
def hPo : rf_H := (h0M (fun _ => 0), va_up (h0S 0) 1 (.inl pt_P), 22, 0)
theorem hPo_pt (L : Nat) (xs : Nat → Int32) : pt_H xs (.inr (.int, L)) hPo = h00 L xs := by
  have e1 : va_up (h0M (fun _ => 0)).1 1 xs = (h0M xs).1 := by
    funext a
    unfold va_up
    by_cases ha : a = 1
    · rw [if_pos ha]; funext j; simp [h0M, ha]
    · rw [if_neg ha]; funext j; simp [h0M, ha]
  have e2 : va_up (va_up (h0S 0) 1 (.inl pt_P)) 1 (.inr (.int, L)) = h0S L := by
    funext a
    unfold va_up
    by_cases ha : a = 1
    · rw [if_pos ha]; simp [h0S, ha]
    · rw [if_neg ha, if_neg ha]; simp [h0S, ha]
  show ((va_up (h0M (fun _ => 0)).1 1 xs, _), va_up (va_up (h0S 0) 1 (.inl pt_P)) 1 (.inr (.int, L)), 22, 0) = h00 L xs
  rw [e1, e2]
  rfl
def K1r (fz : Bool) : Option (Option Value × rf_H) := rf_ev (cx0 fz) 3000 (2000, 80000) 1 0 [(0, .ref 22)] [] (rf_nw hPo (.inl 0) 10)
def K1 (fz : Bool) : rf_H := ((K1r fz).getD (none, hPo)).2
theorem K1_ok (fz : Bool) : (K1r fz).map (fun q => (q.1, q.2.2.2.1, q.2.2.2.2)) = some (none, 353, (K1 fz).2.2.2) ∧ (K1 fz).2.2.1 = 353 := by cases fz <;> decide +kernel
theorem K1_eq (fz : Bool) : K1r fz = some (none, K1 fz) := by
  have h := (K1_ok fz).1
  unfold K1
  cases hk : K1r fz with
  | none => rw [hk] at h; cases h
  | some q =>
    rw [hk] at h
    have h2 : q.1 = none := (Prod.mk.inj (Option.some.inj h)).1
    obtain ⟨q1, q2⟩ := q
    dsimp only at h2
    subst h2
    rfl
def K2r (fz : Bool) : Option (Option Value × rf_H) := rf_ev (cx0 fz) 3000 (2000, 80000) 127 0 [(0, .ref 353)] [] (rf_nw (K1 fz) (.inl 11) 76)
def K2 (fz : Bool) : rf_H := ((K2r fz).getD (none, hPo)).2
theorem K2_ok (fz : Bool) : (K2r fz).map (fun q => (q.1, q.2.2.2.1, q.2.2.2.2)) = some (none, 406, 49191) := by cases fz <;> decide +kernel
theorem K2_eq (fz : Bool) : K2r fz = some (none, K2 fz) := by
  have h := K2_ok fz
  unfold K2
  cases hk : K2r fz with
  | none => rw [hk] at h; cases h
  | some q =>
    rw [hk] at h
    have h2 : q.1 = none := (Prod.mk.inj (Option.some.inj h)).1
    obtain ⟨q1, q2⟩ := q
    dsimp only at h2
    subst h2
    rfl
/-- the heap behind the two constructors, with the script in it -/
def HK (fz : Bool) (L : Nat) (xs : Nat → Int32) : rf_H := pt_H xs (.inr (.int, L)) (K2 fz)
theorem pt_new {row : Nat → Int32} {sh : rf_S} {h : rf_H} (hn : 1 < h.2.2.1) (s : rf_S) (N : Nat) : pt_H row sh (rf_nw h s N) = rf_nw (pt_H row sh h) s N := (pt_nw hn s N).symm
theorem pt_n (row : Nat → Int32) (sh : rf_S) (h : rf_H) : (pt_H row sh h).2.2.1 = h.2.2.1 := rfl
set_option maxHeartbeats 4000000 in
/-- the law, from its entry up to its loop -/
theorem law_made (fz : Bool) (L : Nat) (xs : Nat → Int32) {Q : Option Value → rf_H → Prop} (k : gx (cx0 fz) (2048, 84000) 0 16 [(2, .ref 353), (1, .ref 22), (0, .ref 1)] [] (HK fz L xs) Q) : gx (cx0 fz) (2048, 84000) 0 0 [(0, .ref 1)] [] (h00 L xs) Q := by
  have hp0 : hPo.2.1 1 = .inl pt_P := va_up_self (h0S 0) 1 (.inl pt_P)
  have hn0 : 1 < hPo.2.2.1 := show 1 < 22 from Nat.le_of_ble_eq_true rfl
  obtain ⟨p1, n1⟩ := pt_sh hn0 hp0 (.inl 0) 10
  obtain ⟨r1, p2, n2⟩ := pt_ev (row := xs) (sh := .inr (.int, L)) (cx0_no fz) _ _ _ _ _ _ _ none (K1 fz) p1 n1 (K1_eq fz)
  obtain ⟨p3, n3⟩ := pt_sh n2 p2 (.inl 11) 76
  obtain ⟨r2, p4, n4⟩ := pt_ev (row := xs) (sh := .inr (.int, L)) (cx0_no fz) _ _ _ _ _ _ _ none (K2 fz) p3 n3 (K2_eq fz)
  rw [pt_new hn0, hPo_pt] at r1
  rw [pt_new n2] at r2
  refine g4 (n := 3) (st' := [.ref 22]) (h' := rf_nw (h00 L xs) (.inl 0) 10) rfl rfl rfl rfl ?_
  refine g0 rfl rfl rfl ?_
  refine gx_call (j := 1) (as := [.ref 22]) (rest := [.ref 22]) rfl rfl ⟨Nat.le_of_ble_eq_true rfl, Nat.le_of_ble_eq_true rfl, Nat.le_of_ble_eq_true rfl⟩ ?_
  refine gx_room (d := (2000, 80000)) ⟨_, _, _, r1, ?_⟩ (Nat.le_of_ble_eq_true rfl) (Nat.le_of_ble_eq_true rfl)
  have hc : (pt_H xs (.inr (.int, L)) (K1 fz)).2.2.1 = 353 := (pt_n xs (.inr (.int, L)) (K1 fz)).trans (K1_ok fz).2
  generalize pt_H xs (.inr (.int, L)) (K1 fz) = hk1 at hc r2 ⊢
  refine g2 (n := 1) rfl rfl rfl rfl ?_
  refine g4 (n := 3) (st' := [.ref 353]) (h' := rf_nw hk1 (.inl 11) 76) rfl rfl rfl ?_ ?_
  · show some ([Value.ref hk1.2.2.1], rf_nw hk1 (.inl 11) 76) = _
    rw [hc]
  refine g0 rfl rfl rfl ?_
  refine gx_call (j := 127) (as := [.ref 353]) (rest := [.ref 353]) rfl rfl ⟨Nat.le_of_ble_eq_true rfl, Nat.le_of_ble_eq_true rfl, Nat.le_of_ble_eq_true rfl⟩ ?_
  refine gx_room (d := (2000, 80000)) ⟨_, _, _, r2, ?_⟩ (Nat.le_of_ble_eq_true rfl) (Nat.le_of_ble_eq_true rfl)
  refine g2 (n := 1) rfl rfl rfl rfl ?_
  exact k
