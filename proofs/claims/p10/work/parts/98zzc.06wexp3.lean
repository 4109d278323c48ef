theorem sp_scan_le {b : Nat → Int32} {n : Nat} : ∀ (f p : Nat), ∀ e ∈ sp_scan b n f p, e.1.toInt = 1 → e.2.2.toInt < 26
  | 0, _, e, he, _ => by cases he
  | f + 1, p, e, he, h1 => by
    unfold sp_scan at he
    split at he
    · split at he
      · exact sp_scan_le f (p + 1) e he h1
      · rcases List.mem_cons.mp he with z | z
        · subst z
          dsimp only at h1 ⊢
          unfold sp_tok at h1 ⊢
          split
          · rename_i hl
            rw [if_pos hl] at h1
            have hl' : 97 ≤ (b p).toInt ∧ (b p).toInt ≤ 122 := by
              unfold sp_l at hl
              simp at hl
              exact hl
            split
            · show (b p - 97).toInt < 26
              rw [Int32.toInt_sub, show (97 : Int32).toInt = 97 from rfl, Int.bmod_eq_of_le (by omega) (by omega)]
              omega
            · show (0 : Int32).toInt < 26
              decide
          · rename_i hl
            rw [if_neg hl] at h1
            split
            · rename_i hd
              rw [if_pos hd] at h1
              split at h1
              · exact absurd (show (3 : Int32).toInt = 1 from h1) (by decide)
              · exact absurd (show (2 : Int32).toInt = 1 from h1) (by decide)
            · show (0 : Int32).toInt < 26
              decide
        · exact sp_scan_le f _ e z h1
    · cases he
theorem p_T_l (b : Nat → Int32) (n : Nat) : ∀ i, κT (p_T b n) i = 1 → 0 ≤ νT (p_T b n) i ∧ νT (p_T b n) i < 26 := by
  intro i h
  refine ⟨p_T_let b n i h, ?_⟩
  unfold κT kd at h
  unfold νT nb
  cases ht : (p_T b n)[i]? with
  | none => rw [ht] at h; exact absurd h (by decide)
  | some e =>
    rw [ht] at h
    exact sp_scan_le 800 0 e (List.mem_of_getElem? ht) h
/-! the program's text() as formulas, for lx (printed by wip/tools/vl.py) -/
def e_M_text (Pr : Nat → Int → Nat → rf_M → (Int → rf_M → Prop) → Prop) (M : rf_M) (K : Int → rf_M → Prop) : Prop := ((gi M 22 3) < 12 → ((0 ≤ (gi M 22 3) ∧ (gi M 22 3) < 12 → (Pr 23 (gi M 22 1) (pgA (gi M 22 3)) M (fun (z1 : Int) (M1 : rf_M) => ∀ M2 : rf_M, M2 = wi M1 22 4 z1 → (∀ M3 : rf_M, M3 = wi M2 22 1 0 → (((gi M3 22 4) = (-1) → (∀ M4 : rf_M, M4 = wi M3 22 3 ((gi M3 22 3) + 1) → (inr ((gi M4 22 3) - 1) ∧ (K ((gi M4 22 3) - 1) M4)))) ∧ (¬ ((gi M3 22 4) = (-1)) → (K (-2) M3))))))))) ∧ (¬ ((gi M 22 3) < 12) → (K (-1) M))
theorem E_M_text {fz : Bool} {S : gS} {B : rf_M} {M : rf_M} {ls : rf_L} {n0 : Nat} {Pr : Nat → Int → Nat → rf_M → (Int → rf_M → Prop) → Prop} {K : Int → rf_M → Prop} (hS : rl S) (hR : fl 22 353 B M) (hPr : ∀ n', n' < n0 → ∀ (x0 : Nat) (x1 : Int) (x2 : Nat) (M : rf_M) (K : Int → rf_M → Prop), fl 22 353 B M → pa fz S x0 .int 800 → inr x1 → x2 ∈ k1 → Pr x0 x1 x2 M K → lx (cx0 fz) n' 17 0 (lv_args 0 [.ref 169, .ref x0, zv x1, .ref x2]) [] (M, S) (vl_i 22 353 B S K)) (a0 : rf_ld ls 0 = some (.ref 22)) (h : e_M_text Pr M K) : lx (cx0 fz) n0 16 0 ls [] (M, S) (vl_i 22 353 B S K) := by
  unfold e_M_text at h
  rcases Nat.eq_zero_or_pos n0 with e0 | hp
  · rw [e0]; exact lx_zero
  refine l1 (n := 1) rfl rfl rfl (la_of a0) ?_
  refine l_gi rfl (ko_0 hS (List.Mem.head _)) rfl (fun _ => rfl) ?_
  refine l_bi rfl (by decide) ?_
  refine l_ic rfl (inr_gi _ _ _) ⟨by decide, by decide⟩ (fun c => ?_) (fun c => ?_)
  · replace h := h.1 c
    refine l1 (n := 1) rfl rfl rfl (la_of a0) ?_
    refine l1 (n := 1) rfl rfl rfl (la_of a0) ?_
    refine l_gr rfl (ko_0 hS (List.Mem.head _)) rfl (fun _ => rfl) (kf_0_5 hR.2 (List.Mem.head _)) ?_
    refine l1 (n := 1) rfl rfl rfl (la_of a0) ?_
    refine l_gr rfl (ko_0 hS (List.Mem.head _)) rfl (fun _ => rfl) (kf_0_0 hR.2 (List.Mem.head _)) ?_
    refine l1 (n := 1) rfl rfl rfl (la_of a0) ?_
    refine l_gi rfl (ko_0 hS (List.Mem.head _)) rfl (fun _ => rfl) ?_
    refine l1 (n := 1) rfl rfl rfl (la_of a0) ?_
    refine l_gr rfl (ko_0 hS (List.Mem.head _)) rfl (fun _ => rfl) (kf_0_2 hR.2 (List.Mem.head _)) ?_
    refine l1 (n := 1) rfl rfl rfl (la_of a0) ?_
    refine l_gi rfl (ko_0 hS (List.Mem.head _)) rfl (fun _ => rfl) ?_
    refine b_aa rfl (kc_24 (fz := fz) hS).1 (Nat.le_of_ble_eq_true rfl) (inr_gi _ _ _) (fun q1 => ⟨pgA_ref hR.2 q1, ?_⟩)
    replace h := h q1
    refine b_iv (c := 169) (as := [.ref 23, zv (gi M 22 1), .ref (pgA (gi M 22 3))]) (rest := [.ref 22]) rfl (by decide) (ko_2 hS (List.Mem.head _)) rfl rfl (Nat.le_of_ble_eq_true rfl) (fun hq => ?_)
    refine lx_mono (hPr _ (by omega) _ _ _ _ _ hR (kc_23 (fz := fz) hS) (inr_gi _ _ _) (pgA_mem q1) h) ?_
    rintro _ _ ⟨z1, M1, rfl, rfl, r1, iz1, h⟩
    refine l_pi rfl (ko_0 (fz := fz) hS (List.Mem.head _)) rfl (fun _ _ => rfl) (fun M2 e => ?_)
    replace h := h M2 e
    have r2 := r1.wi (ko_0 (fz := fz) hS (List.Mem.head _)).1 (kl_0 (List.Mem.head _)) e
    refine l1 (n := 1) rfl rfl rfl (la_of a0) ?_
    refine l1 (n := 1) rfl rfl rfl rfl ?_
    refine l_pi rfl (ko_0 (fz := fz) hS (List.Mem.head _)) rfl (fun _ _ => rfl) (fun M3 e => ?_)
    replace h := h M3 e
    have r3 := r2.wi (ko_0 (fz := fz) hS (List.Mem.head _)).1 (kl_0 (List.Mem.head _)) e
    refine l1 (n := 1) rfl rfl rfl (la_of a0) ?_
    refine l_gi rfl (ko_0 hS (List.Mem.head _)) rfl (fun _ => rfl) ?_
    refine l1 (n := 1) rfl rfl rfl rfl ?_
    refine l_ic rfl (inr_gi _ _ _) ⟨by decide, by decide⟩ (fun c => ?_) (fun c => ?_)
    · replace h := h.1 c
      refine l1 (n := 1) rfl rfl rfl (la_of a0) ?_
      refine l0 rfl rfl rfl ?_
      refine l_gi rfl (ko_0 hS (List.Mem.head _)) rfl (fun _ => rfl) ?_
      refine l1 (n := 1) rfl rfl rfl rfl ?_
      refine l_add rfl ?_
      refine l_pi rfl (ko_0 (fz := fz) hS (List.Mem.head _)) rfl (fun _ _ => rfl) (fun M4 e => ?_)
      replace h := h M4 e
      have r4 := r3.wi (ko_0 (fz := fz) hS (List.Mem.head _)).1 (kl_0 (List.Mem.head _)) e
      refine l1 (n := 1) rfl rfl rfl (la_of a0) ?_
      refine l_gi rfl (ko_0 hS (List.Mem.head _)) rfl (fun _ => rfl) ?_
      refine l1 (n := 1) rfl rfl rfl rfl ?_
      refine l_sub rfl ?_
      obtain ⟨i1, h⟩ := h
      exact l_ri rfl rfl i1 r4 h
    · replace h := h.2 c
      refine l_bi rfl (by decide) ?_
      exact l_ri rfl rfl ⟨by decide, by decide⟩ r3 h
  · replace h := h.2 c
    refine l1 (n := 1) rfl rfl rfl rfl ?_
    exact l_ri rfl rfl ⟨by decide, by decide⟩ hR h
def em_M_text (Pr : Nat → Int → Nat → rf_M → (Int → rf_M → Prop) → Prop) (M : rf_M) (K : Int → rf_M → Prop) : Prop := e_M_text Pr  M K
theorem E_M_text_m {fz : Bool} {S : gS} {B : rf_M} {M : rf_M} {n0 : Nat} {Pr : Nat → Int → Nat → rf_M → (Int → rf_M → Prop) → Prop} {K : Int → rf_M → Prop} (hS : rl S) (hR : fl 22 353 B M) (hPr : ∀ n', n' < n0 → ∀ (x0 : Nat) (x1 : Int) (x2 : Nat) (M : rf_M) (K : Int → rf_M → Prop), fl 22 353 B M → pa fz S x0 .int 800 → inr x1 → x2 ∈ k1 → Pr x0 x1 x2 M K → lx (cx0 fz) n' 17 0 (lv_args 0 [.ref 169, .ref x0, zv x1, .ref x2]) [] (M, S) (vl_i 22 353 B S K)) (h : em_M_text Pr  M K) : lx (cx0 fz) n0 16 0 (lv_args 0 [.ref 22]) [] (M, S) (vl_i 22 353 B S K) :=
  E_M_text hS hR hPr rfl h
