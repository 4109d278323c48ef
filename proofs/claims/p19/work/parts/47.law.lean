/-! THE LAW'S LOOP, out of a pair of contracts for each call (printed by wip/tools/law.py) -/
/-- both do the call, one behind the other; what J says holds behind them; the answers, where they are compared, are the same -/
theorem lw_b {n L : Nat} (k : Nat) (h : 6 * n + 6 ≤ L) (hk : k < 6) : 6 * n + k < L := by omega
theorem lw_t {t : Nat} (h : t ≤ 18) : t = 0 ∨ t = 1 ∨ t = 2 ∨ t = 3 ∨ t = 4 ∨ t = 5 ∨ t = 6 ∨ t = 7 ∨ t = 8 ∨ t = 9 ∨ t = 10 ∨ t = 11 ∨ t = 12 ∨ t = 13 ∨ t = 14 ∨ t = 15 ∨ t = 16 ∨ t = 17 ∨ t = 18 :=
  (show ∀ t : Nat, t < 19 → (t = 0 ∨ t = 1 ∨ t = 2 ∨ t = 3 ∨ t = 4 ∨ t = 5 ∨ t = 6 ∨ t = 7 ∨ t = 8 ∨ t = 9 ∨ t = 10 ∨ t = 11 ∨ t = 12 ∨ t = 13 ∨ t = 14 ∨ t = 15 ∨ t = 16 ∨ t = 17 ∨ t = 18) from by decide +kernel) t (Nat.lt_succ_of_le h)
def lw_I (cx : rf_C) (S : gS) (xs : Nat → Int32) (J : rf_M → Prop) (cmp : Bool) (jx jm : Nat) (as : List Value) : Prop := ∀ M, J M → gx cx (2000, 80000) jx 0 (lv_args 0 (.ref 22 :: as)) [] (M, S) (fun r h1 => ∃ (z : Int32) (M1 : rf_M), r = some (.int z) ∧ h1 = (M1, S) ∧ (∀ k, M1.1 1 k = xs k) ∧ gx cx (2000, 80000) jm 0 (lv_args 0 (.ref 353 :: as)) [] (M1, S) (fun r' h2 => ∃ (z' : Int32) (M2 : rf_M), r' = some (.int z') ∧ h2 = (M2, S) ∧ J M2 ∧ (cmp = true → z = z')))
def lw_L (cx : rf_C) (S : gS) (xs : Nat → Int32) (J : rf_M → Prop) (cmp : Bool) (jx jm : Nat) (as : List Value) : Prop := ∀ M, J M → gx cx (2000, 80000) jx 0 (lv_args 0 (.ref 22 :: as)) [] (M, S) (fun r h1 => ∃ (z : Int64) (M1 : rf_M), r = some (.long z) ∧ h1 = (M1, S) ∧ (∀ k, M1.1 1 k = xs k) ∧ gx cx (2000, 80000) jm 0 (lv_args 0 (.ref 353 :: as)) [] (M1, S) (fun r' h2 => ∃ (z' : Int64) (M2 : rf_M), r' = some (.long z') ∧ h2 = (M2, S) ∧ J M2 ∧ (cmp = true → z = z')))
section LAWROWS

variable {cx : rf_C} {d : Nat × Nat} {i pc : Nat} {ls : rf_L} {st : List Value} {Q : Option Value → rf_H → Prop} {M : rf_M} {S : gS} {aux : List (Int × Nat)}

/-- a number of the script -/
theorem g_sc {j : Int32} {n L : Nat} {xs : Nat → Int32} (hf : cx.1 i pc = some (.iaload, aux)) (hS : S.1 1 = .inr (.int, L)) (hn1 : 1 < S.2.1) (HX : ∀ k, M.1 1 k = xs k) (hj : j.toInt = (n : Int)) (hn : n < L) (kk : gx cx d i (pc + 1) ls (.int (xs n) :: st) (M, S) Q) : gx cx d i pc ls (.int j :: .ref 1 :: st) (M, S) Q := by
  refine g4 hf rfl rfl (st' := .int (xs n) :: st) (h' := (M, S)) ?_ kk
  show (match rf_el (M, S) .int 1 j with | some v => some (v :: st, (M, S)) | none => none) = _
  have e : j.toNatClampNeg = n := by show j.toInt.toNat = n; omega
  have ea : rf_aa (M, S) 1 = some (.int, L) := by
    unfold rf_aa
    rw [if_pos ⟨by omega, hn1⟩]
    show (match S.1 1 with | .inr q => some q | .inl _ => none) = _
    rw [hS]
  unfold rf_el
  rw [ea]
  dsimp only
  rw [if_pos ⟨rfl, by rw [e, Int32.lt_iff_toInt_lt, Int32.toInt_zero]; omega⟩, e]
  show some (Value.int (M.1 1 n) :: st, (M, S)) = _
  rw [HX n]
theorem g_iv {idx a ci j n : Nat} {kd : Int} {tg : List (Int × Nat)} {as rest : List Value} (hf : cx.1 i pc = some (.invokevirtual idx, (kd, n) :: tg)) (hk : ¬ 10 ≤ kd) (hs : go cx S a ci) (hl : rf_lk tg (ci : Int) = some j) (hn : as.length = n) (hc : (rest.map fun v => v.category).sum ≤ 8) (hroom : 1 ≤ d.1 ∧ (cx.2.1 j).2.2.1 + 19 ≤ d.2 ∧ (lg_sl (.ref a :: as)).length ≤ (cx.2.1 j).2.2.1) (k : gx cx (d.1 - 1, d.2 - ((cx.2.1 j).2.2.1 + 19)) j 0 (lv_args 0 (.ref a :: as)) [] (M, S) (fun r h' => gx cx d i (pc + 3) ls (r.toList ++ rest) h' Q)) : gx cx d i pc ls (as.reverse ++ .ref a :: rest) (M, S) Q := by
  refine gx_call hf (j := j) (as := .ref a :: as) (rest := rest) ?_ hroom k
  subst hn
  have h1 : (as.reverse ++ .ref a :: rest).drop as.length = .ref a :: rest := by
    rw [← List.length_reverse]; exact List.drop_left
  have h2 : (as.reverse ++ .ref a :: rest).take as.length = as.reverse := by
    rw [← List.length_reverse]; exact List.take_left
  unfold rf_ex
  show (if 10 ≤ kd then _ else _) = _
  rw [if_neg hk]
  unfold rf_ca
  dsimp only
  rw [h1]
  dsimp only
  rw [hs.ob]
  dsimp only
  rw [hs.ky, hl]
  dsimp only
  rw [if_pos ⟨by simp, hc⟩, h2, List.reverse_reverse]
  rfl
end LAWROWS

theorem lw_sw {cx : rf_C} {d : Nat × Nat} {i pc : Nat} {ls : rf_L} {st : List Value} {Q : Option Value → rf_H → Prop} {h : rf_H} {aux : List (Int × Nat)} {x : Int32} {q0 : Int} {q2 : Array Int} (hlen : aux.length = 20) (hf : cx.1 i pc = some (.tableswitch q0 0 18 q2, aux)) (kd : (x.toInt < 0 ∨ 18 < x.toInt) → gx cx d i (rf_tg aux) ls st h Q) (kt : ∀ t : Nat, t ≤ 18 → gx cx d i (((aux[t + 1]?).getD (0, 0)).2) ls st h Q) : gx cx d i pc ls (.int x :: st) h Q := by
  by_cases hc : x.toInt < 0 ∨ 18 < x.toInt
  · exact g3 hf rfl (if_pos hc) (kd hc)
  · have hl : (x.toInt - 0).toNat + 1 < aux.length := by omega
    refine g3 hf rfl (pc' := ((aux[(x.toInt - 0).toNat + 1]?).getD (0, 0)).2) ?_ (kt _ (by omega))
    show (if x.toInt < 0 ∨ 18 < x.toInt then _ else (match aux[(x.toInt - 0).toNat + 1]? with | some q => some (q.2, st) | none => none)) = _
    rw [if_neg hc, List.getElem?_eq_getElem hl]
    rfl

set_option maxHeartbeats 4000000 in
theorem law_go (fz : Bool) {L : Nat} {S : gS} {M0 : rf_M} (xs : Nat → Int32) (hL : L ≤ 3072) {J : rf_M → Prop} (hJ : ∀ M, J M → ∀ k, M.1 1 k = xs k) (hgx : go (cx0 fz) S 22 0) (hgm : go (cx0 fz) S 353 11) (hS1 : S.1 1 = .inr (.int, L)) (hS2 : 1 < S.2.1)
    (hp_13 : ∀ (a0 : Int32) (a1 : Int32) (a2 : Int32) (a3 : Int32) (a4 : Int32), lw_I (cx0 fz) S xs J false 13 128 [.int a0, .int a1, .int a2, .int a3, .int a4])
    (hp_15 : ∀ (a0 : Int32), lw_I (cx0 fz) S xs J false 15 129 [.int a0])
    (hp_16 : lw_I (cx0 fz) S xs J false 16 130 [])
    (hp_56 : lw_I (cx0 fz) S xs J false 56 152 [])
    (hp_57 : ∀ (a0 : Int32) (a1 : Int32), lw_I (cx0 fz) S xs J false 57 153 [.int a0, .int a1])
    (hp_59 : ∀ (a0 : Int32) (a1 : Int64), lw_I (cx0 fz) S xs J false 59 184 [.int a0, .long a1])
    (hp_79 : ∀ (a0 : Int32), lw_L (cx0 fz) S xs J false 79 185 [.int a0])
    (hp_80 : ∀ (a0 : Int32), lw_I (cx0 fz) S xs J false 80 186 [.int a0])
    (hp_81 : ∀ (a0 : Int32) (a1 : Int32), lw_I (cx0 fz) S xs J false 81 187 [.int a0, .int a1])
    (hp_84 : ∀ (a0 : Int32), lw_I (cx0 fz) S xs J false 84 154 [.int a0])
    (hp_108 : ∀ (a0 : Int64) (a1 : Int32), lw_I (cx0 fz) S xs J false 108 183 [.long a0, .int a1])
    (hp_109 : ∀ (a0 : Int32) (a1 : Int32), lw_I (cx0 fz) S xs J false 109 188 [.int a0, .int a1])
    (hp_111 : ∀ (a0 : Int32) (a1 : Int32), lw_L (cx0 fz) S xs J false 111 189 [.int a0, .int a1])
    (hp_112 : lw_I (cx0 fz) S xs J false 112 190 [])
    (hp_113 : lw_I (cx0 fz) S xs J false 113 191 [])
    (hp_114 : ∀ (a0 : Int32) (a1 : Int32), lw_I (cx0 fz) S xs J false 114 192 [.int a0, .int a1])
    (hp_117 : ∀ (a0 : Int32), lw_L (cx0 fz) S xs J false 117 193 [.int a0])
    (hp_118 : lw_I (cx0 fz) S xs J true 118 194 [])
    (hp_122 : lw_I (cx0 fz) S xs J false 122 197 []) (HJ0 : J M0) : gx (cx0 fz) (2048, 84000) 0 16 [(2, .ref 353), (1, .ref 22), (0, .ref 1)] [] (M0, S) (fun r h => r = some (.int 1) ∧ h.2 = S) := by
  have loop : ∀ (m n : Nat), L - 6 * n ≤ m → 6 * n ≤ L + 6 → ∀ M, J M → gx (cx0 fz) (2048, 84000) 0 18 [(3, .int (nI (6 * n))), (2, .ref 353), (1, .ref 22), (0, .ref 1)] [] (M, S) (fun r h => r = some (.int 1) ∧ h.2 = S) := by
    intro m
    induction m using Nat.strongRecOn with
    | _ m ih =>
      intro n hm hn M HJ
      have HX := hJ M HJ
      have hi0 : (nI (6 * n)).toInt = ((6 * n : Nat) : Int) := by
        unfold nI
        rw [Int32.toInt_ofNat']
        exact Int.bmod_eq_of_le (by have : Int32.size = 4294967296 := rfl; omega) (by have : Int32.size = 4294967296 := rfl; omega)
      have hl0 : (nI L).toInt = (L : Int) := by
        unfold nI
        rw [Int32.toInt_ofNat']
        exact Int.bmod_eq_of_le (by have : Int32.size = 4294967296 := rfl; omega) (by have : Int32.size = 4294967296 := rfl; omega)
      refine g1 (n := 1) rfl rfl rfl rfl ?_
      refine g1 (n := 1) rfl rfl rfl rfl ?_
      refine g4 (n := 1) (st' := [.int (nI L), .int (nI (6 * n))]) (h' := (M, S)) rfl rfl rfl ?_ ?_
      · show (match rf_aa (M, S) 1 with | some q => some ([Value.int (nI q.2), .int (nI (6 * n))], (M, S)) | none => none) = _
        unfold rf_aa
        rw [if_pos ⟨by omega, hS2⟩]
        show (match (match S.1 1 with | .inr q => some q | .inl _ => none) with | some q => some ([Value.int (nI q.2), .int (nI (6 * n))], (M, S)) | none => none) = _
        rw [hS1]
      refine g1 (n := 2) rfl rfl rfl rfl ?_
      refine g0 rfl rfl rfl ?_
      have hl6 : (nI L - (Int8.ofInt 6).toInt32).toInt = (L : Int) - 6 := by
        rw [Int32.toInt_sub, hl0]
        exact Int.bmod_eq_of_le (by have e : (Int8.ofInt 6).toInt32.toInt = 6 := rfl; rw [e]; omega) (by have e : (Int8.ofInt 6).toInt32.toInt = 6 := rfl; rw [e]; omega)
      refine g_ic rfl (fun c1 => ?_) (fun c1 => ?_)
      · refine g1 (n := 1) rfl rfl rfl rfl ?_
        exact gx_ret rfl rfl ⟨rfl, rfl⟩
      have c1 : ¬ (nI L - (Int8.ofInt 6).toInt32) < nI (6 * n) := fun z => c1 (decide_eq_true z)
      rw [Int32.lt_iff_toInt_lt, hl6, hi0] at c1
      have hlt : 6 * n + 6 ≤ L := by omega
      have hix : ∀ t : Nat, t ≤ 5 → (nI (6 * n) + Int32.ofInt (t : Int)).toInt = ((6 * n + t : Nat) : Int) := by
        intro t ht
        rw [Int32.toInt_add, hi0, Int32.toInt_ofInt_of_le (by omega) (by omega)]
        exact Int.bmod_eq_of_le (by omega) (by omega)
      have next : ∀ M', J M' → gx (cx0 fz) (2048, 84000) 0 671 [(3, .int (nI (6 * n))), (2, .ref 353), (1, .ref 22), (0, .ref 1)] [] (M', S) (fun r h => r = some (.int 1) ∧ h.2 = S) := by
        intro M' HJ'
        refine g2 (n := 3) rfl rfl rfl rfl ?_
        refine g3 rfl rfl rfl ?_
        have e : nI (6 * n) + Int32.ofInt 6 = nI (6 * (n + 1)) := by
          refine Int32.toInt_inj.mp ?_
          rw [Int32.toInt_add, hi0]
          unfold nI
          rw [Int32.toInt_ofNat', Int32.toInt_ofInt_of_le (by omega) (by omega)]
          rw [Int.bmod_eq_of_le (by omega) (by omega), Int.bmod_eq_of_le (by have : Int32.size = 4294967296 := rfl; omega) (by have : Int32.size = 4294967296 := rfl; omega)]
          omega
        have e2 : rf_s1 [(3, Value.int (nI (6 * n))), (2, .ref 353), (1, .ref 22), (0, .ref 1)] 3 (.int (nI (6 * n) + Int32.ofInt 6)) = [(3, .int (nI (6 * (n + 1)))), (2, .ref 353), (1, .ref 22), (0, .ref 1)] := by rw [e]; rfl
        rw [e2]
        exact ih (L - 6 * (n + 1)) (by omega) (n + 1) (Nat.le_refl _) (by omega) M' HJ'
      refine g1 (n := 1) rfl rfl rfl rfl ?_
      refine g1 (n := 1) rfl rfl rfl rfl ?_
      refine g_sc (n := 6 * n) rfl hS1 hS2 HX hi0 (by omega) ?_
      refine g1 (n := 2) rfl rfl rfl rfl ?_
      refine g0 rfl rfl rfl ?_
      generalize hv : xs (6 * n) &&& (Int8.ofInt 31).toInt32 = v
      refine lw_sw rfl rfl (fun hd => ?_) (fun t ht => ?_)
      · exact next M HJ
      have ht2 : t = 0 ∨ t = 1 ∨ t = 2 ∨ t = 3 ∨ t = 4 ∨ t = 5 ∨ t = 6 ∨ t = 7 ∨ t = 8 ∨ t = 9 ∨ t = 10 ∨ t = 11 ∨ t = 12 ∨ t = 13 ∨ t = 14 ∨ t = 15 ∨ t = 16 ∨ t = 17 ∨ t = 18 := lw_t ht
      rcases ht2 with rfl | rfl | rfl | rfl | rfl | rfl | rfl | rfl | rfl | rfl | rfl | rfl | rfl | rfl | rfl | rfl | rfl | rfl | rfl
      · clear hv ht
        show gx _ _ _ 124 _ _ _ _
        refine g1 (n := 1) rfl rfl rfl rfl ?_
        refine g1 (n := 1) rfl rfl rfl rfl ?_
        refine g1 (n := 1) rfl rfl rfl rfl ?_
        refine g1 (n := 1) rfl rfl rfl rfl ?_
        refine g0 rfl rfl rfl ?_
        refine g_sc (n := 6 * n + 1) rfl hS1 hS2 HX (hix 1 (by decide)) (lw_b 1 hlt (by decide)) ?_
        refine g1 (n := 1) rfl rfl rfl rfl ?_
        refine g1 (n := 1) rfl rfl rfl rfl ?_
        refine g1 (n := 1) rfl rfl rfl rfl ?_
        refine g0 rfl rfl rfl ?_
        refine g_sc (n := 6 * n + 2) rfl hS1 hS2 HX (hix 2 (by decide)) (lw_b 2 hlt (by decide)) ?_
        refine g1 (n := 1) rfl rfl rfl rfl ?_
        refine g1 (n := 1) rfl rfl rfl rfl ?_
        refine g1 (n := 1) rfl rfl rfl rfl ?_
        refine g0 rfl rfl rfl ?_
        refine g_sc (n := 6 * n + 3) rfl hS1 hS2 HX (hix 3 (by decide)) (lw_b 3 hlt (by decide)) ?_
        refine g1 (n := 1) rfl rfl rfl rfl ?_
        refine g1 (n := 1) rfl rfl rfl rfl ?_
        refine g1 (n := 1) rfl rfl rfl rfl ?_
        refine g0 rfl rfl rfl ?_
        refine g_sc (n := 6 * n + 4) rfl hS1 hS2 HX (hix 4 (by decide)) (lw_b 4 hlt (by decide)) ?_
        refine g1 (n := 1) rfl rfl rfl rfl ?_
        refine g1 (n := 1) rfl rfl rfl rfl ?_
        refine g1 (n := 1) rfl rfl rfl rfl ?_
        refine g0 rfl rfl rfl ?_
        refine g_sc (n := 6 * n + 5) rfl hS1 hS2 HX (hix 5 (by decide)) (lw_b 5 hlt (by decide)) ?_
        refine g_iv (a := 22) (as := [.int _, .int _, .int _, .int _, .int _]) (rest := []) rfl (by decide) hgx rfl rfl (Nat.le_of_ble_eq_true rfl) ⟨Nat.le_of_ble_eq_true rfl, Nat.le_of_ble_eq_true rfl, Nat.le_of_ble_eq_true rfl⟩ ?_
        refine gx_room (gx_mono (hp_13 _ _ _ _ _ M HJ) ?_) (Nat.le_of_ble_eq_true rfl) (Nat.le_of_ble_eq_true rfl)
        rintro r h1 ⟨z, M1, rfl, rfl, HX, hm⟩
        refine g0 rfl rfl rfl ?_
        refine g1 (n := 1) rfl rfl rfl rfl ?_
        refine g1 (n := 1) rfl rfl rfl rfl ?_
        refine g1 (n := 1) rfl rfl rfl rfl ?_
        refine g1 (n := 1) rfl rfl rfl rfl ?_
        refine g0 rfl rfl rfl ?_
        refine g_sc (n := 6 * n + 1) rfl hS1 hS2 HX (hix 1 (by decide)) (lw_b 1 hlt (by decide)) ?_
        refine g1 (n := 1) rfl rfl rfl rfl ?_
        refine g1 (n := 1) rfl rfl rfl rfl ?_
        refine g1 (n := 1) rfl rfl rfl rfl ?_
        refine g0 rfl rfl rfl ?_
        refine g_sc (n := 6 * n + 2) rfl hS1 hS2 HX (hix 2 (by decide)) (lw_b 2 hlt (by decide)) ?_
        refine g1 (n := 1) rfl rfl rfl rfl ?_
        refine g1 (n := 1) rfl rfl rfl rfl ?_
        refine g1 (n := 1) rfl rfl rfl rfl ?_
        refine g0 rfl rfl rfl ?_
        refine g_sc (n := 6 * n + 3) rfl hS1 hS2 HX (hix 3 (by decide)) (lw_b 3 hlt (by decide)) ?_
        refine g1 (n := 1) rfl rfl rfl rfl ?_
        refine g1 (n := 1) rfl rfl rfl rfl ?_
        refine g1 (n := 1) rfl rfl rfl rfl ?_
        refine g0 rfl rfl rfl ?_
        refine g_sc (n := 6 * n + 4) rfl hS1 hS2 HX (hix 4 (by decide)) (lw_b 4 hlt (by decide)) ?_
        refine g1 (n := 1) rfl rfl rfl rfl ?_
        refine g1 (n := 1) rfl rfl rfl rfl ?_
        refine g1 (n := 1) rfl rfl rfl rfl ?_
        refine g0 rfl rfl rfl ?_
        refine g_sc (n := 6 * n + 5) rfl hS1 hS2 HX (hix 5 (by decide)) (lw_b 5 hlt (by decide)) ?_
        refine g_iv (a := 353) (as := [.int _, .int _, .int _, .int _, .int _]) (rest := []) rfl (by decide) hgm rfl rfl (Nat.le_of_ble_eq_true rfl) ⟨Nat.le_of_ble_eq_true rfl, Nat.le_of_ble_eq_true rfl, Nat.le_of_ble_eq_true rfl⟩ ?_
        refine gx_room (gx_mono hm ?_) (Nat.le_of_ble_eq_true rfl) (Nat.le_of_ble_eq_true rfl)
        rintro r h2 ⟨z', M2, rfl, rfl, HJ2, hz⟩
        refine g0 rfl rfl rfl ?_
        refine g3 rfl rfl rfl ?_
        exact next M2 HJ2
      · clear hv ht
        show gx _ _ _ 187 _ _ _ _
        refine g1 (n := 1) rfl rfl rfl rfl ?_
        refine g1 (n := 1) rfl rfl rfl rfl ?_
        refine g1 (n := 1) rfl rfl rfl rfl ?_
        refine g1 (n := 1) rfl rfl rfl rfl ?_
        refine g0 rfl rfl rfl ?_
        refine g_sc (n := 6 * n + 1) rfl hS1 hS2 HX (hix 1 (by decide)) (lw_b 1 hlt (by decide)) ?_
        refine g_iv (a := 22) (as := [.int _]) (rest := []) rfl (by decide) hgx rfl rfl (Nat.le_of_ble_eq_true rfl) ⟨Nat.le_of_ble_eq_true rfl, Nat.le_of_ble_eq_true rfl, Nat.le_of_ble_eq_true rfl⟩ ?_
        refine gx_room (gx_mono (hp_15 _ M HJ) ?_) (Nat.le_of_ble_eq_true rfl) (Nat.le_of_ble_eq_true rfl)
        rintro r h1 ⟨z, M1, rfl, rfl, HX, hm⟩
        refine g0 rfl rfl rfl ?_
        refine g1 (n := 1) rfl rfl rfl rfl ?_
        refine g1 (n := 1) rfl rfl rfl rfl ?_
        refine g1 (n := 1) rfl rfl rfl rfl ?_
        refine g1 (n := 1) rfl rfl rfl rfl ?_
        refine g0 rfl rfl rfl ?_
        refine g_sc (n := 6 * n + 1) rfl hS1 hS2 HX (hix 1 (by decide)) (lw_b 1 hlt (by decide)) ?_
        refine g_iv (a := 353) (as := [.int _]) (rest := []) rfl (by decide) hgm rfl rfl (Nat.le_of_ble_eq_true rfl) ⟨Nat.le_of_ble_eq_true rfl, Nat.le_of_ble_eq_true rfl, Nat.le_of_ble_eq_true rfl⟩ ?_
        refine gx_room (gx_mono hm ?_) (Nat.le_of_ble_eq_true rfl) (Nat.le_of_ble_eq_true rfl)
        rintro r h2 ⟨z', M2, rfl, rfl, HJ2, hz⟩
        refine g0 rfl rfl rfl ?_
        refine g3 rfl rfl rfl ?_
        exact next M2 HJ2
      · clear hv ht
        show gx _ _ _ 210 _ _ _ _
        refine g1 (n := 1) rfl rfl rfl rfl ?_
        refine g_iv (a := 22) (as := []) (rest := []) rfl (by decide) hgx rfl rfl (Nat.le_of_ble_eq_true rfl) ⟨Nat.le_of_ble_eq_true rfl, Nat.le_of_ble_eq_true rfl, Nat.le_of_ble_eq_true rfl⟩ ?_
        refine gx_room (gx_mono (hp_16  M HJ) ?_) (Nat.le_of_ble_eq_true rfl) (Nat.le_of_ble_eq_true rfl)
        rintro r h1 ⟨z, M1, rfl, rfl, HX, hm⟩
        refine g0 rfl rfl rfl ?_
        refine g1 (n := 1) rfl rfl rfl rfl ?_
        refine g_iv (a := 353) (as := []) (rest := []) rfl (by decide) hgm rfl rfl (Nat.le_of_ble_eq_true rfl) ⟨Nat.le_of_ble_eq_true rfl, Nat.le_of_ble_eq_true rfl, Nat.le_of_ble_eq_true rfl⟩ ?_
        refine gx_room (gx_mono hm ?_) (Nat.le_of_ble_eq_true rfl) (Nat.le_of_ble_eq_true rfl)
        rintro r h2 ⟨z', M2, rfl, rfl, HJ2, hz⟩
        refine g0 rfl rfl rfl ?_
        refine g3 rfl rfl rfl ?_
        exact next M2 HJ2
      · clear hv ht
        show gx _ _ _ 223 _ _ _ _
        refine g1 (n := 1) rfl rfl rfl rfl ?_
        refine g_iv (a := 22) (as := []) (rest := []) rfl (by decide) hgx rfl rfl (Nat.le_of_ble_eq_true rfl) ⟨Nat.le_of_ble_eq_true rfl, Nat.le_of_ble_eq_true rfl, Nat.le_of_ble_eq_true rfl⟩ ?_
        refine gx_room (gx_mono (hp_56  M HJ) ?_) (Nat.le_of_ble_eq_true rfl) (Nat.le_of_ble_eq_true rfl)
        rintro r h1 ⟨z, M1, rfl, rfl, HX, hm⟩
        refine g0 rfl rfl rfl ?_
        refine g1 (n := 1) rfl rfl rfl rfl ?_
        refine g_iv (a := 353) (as := []) (rest := []) rfl (by decide) hgm rfl rfl (Nat.le_of_ble_eq_true rfl) ⟨Nat.le_of_ble_eq_true rfl, Nat.le_of_ble_eq_true rfl, Nat.le_of_ble_eq_true rfl⟩ ?_
        refine gx_room (gx_mono hm ?_) (Nat.le_of_ble_eq_true rfl) (Nat.le_of_ble_eq_true rfl)
        rintro r h2 ⟨z', M2, rfl, rfl, HJ2, hz⟩
        refine g0 rfl rfl rfl ?_
        refine g3 rfl rfl rfl ?_
        exact next M2 HJ2
      · clear hv ht
        show gx _ _ _ 236 _ _ _ _
        refine g1 (n := 1) rfl rfl rfl rfl ?_
        refine g1 (n := 1) rfl rfl rfl rfl ?_
        refine g1 (n := 1) rfl rfl rfl rfl ?_
        refine g1 (n := 1) rfl rfl rfl rfl ?_
        refine g0 rfl rfl rfl ?_
        refine g_sc (n := 6 * n + 1) rfl hS1 hS2 HX (hix 1 (by decide)) (lw_b 1 hlt (by decide)) ?_
        refine g1 (n := 1) rfl rfl rfl rfl ?_
        refine g1 (n := 1) rfl rfl rfl rfl ?_
        refine g1 (n := 1) rfl rfl rfl rfl ?_
        refine g0 rfl rfl rfl ?_
        refine g_sc (n := 6 * n + 2) rfl hS1 hS2 HX (hix 2 (by decide)) (lw_b 2 hlt (by decide)) ?_
        refine g_iv (a := 22) (as := [.int _, .int _]) (rest := []) rfl (by decide) hgx rfl rfl (Nat.le_of_ble_eq_true rfl) ⟨Nat.le_of_ble_eq_true rfl, Nat.le_of_ble_eq_true rfl, Nat.le_of_ble_eq_true rfl⟩ ?_
        refine gx_room (gx_mono (hp_57 _ _ M HJ) ?_) (Nat.le_of_ble_eq_true rfl) (Nat.le_of_ble_eq_true rfl)
        rintro r h1 ⟨z, M1, rfl, rfl, HX, hm⟩
        refine g0 rfl rfl rfl ?_
        refine g1 (n := 1) rfl rfl rfl rfl ?_
        refine g1 (n := 1) rfl rfl rfl rfl ?_
        refine g1 (n := 1) rfl rfl rfl rfl ?_
        refine g1 (n := 1) rfl rfl rfl rfl ?_
        refine g0 rfl rfl rfl ?_
        refine g_sc (n := 6 * n + 1) rfl hS1 hS2 HX (hix 1 (by decide)) (lw_b 1 hlt (by decide)) ?_
        refine g1 (n := 1) rfl rfl rfl rfl ?_
        refine g1 (n := 1) rfl rfl rfl rfl ?_
        refine g1 (n := 1) rfl rfl rfl rfl ?_
        refine g0 rfl rfl rfl ?_
        refine g_sc (n := 6 * n + 2) rfl hS1 hS2 HX (hix 2 (by decide)) (lw_b 2 hlt (by decide)) ?_
        refine g_iv (a := 353) (as := [.int _, .int _]) (rest := []) rfl (by decide) hgm rfl rfl (Nat.le_of_ble_eq_true rfl) ⟨Nat.le_of_ble_eq_true rfl, Nat.le_of_ble_eq_true rfl, Nat.le_of_ble_eq_true rfl⟩ ?_
        refine gx_room (gx_mono hm ?_) (Nat.le_of_ble_eq_true rfl) (Nat.le_of_ble_eq_true rfl)
        rintro r h2 ⟨z', M2, rfl, rfl, HJ2, hz⟩
        refine g0 rfl rfl rfl ?_
        refine g3 rfl rfl rfl ?_
        exact next M2 HJ2
      · clear hv ht
        show gx _ _ _ 269 _ _ _ _
        refine g1 (n := 1) rfl rfl rfl rfl ?_
        refine g1 (n := 1) rfl rfl rfl rfl ?_
        refine g1 (n := 1) rfl rfl rfl rfl ?_
        refine g1 (n := 1) rfl rfl rfl rfl ?_
        refine g0 rfl rfl rfl ?_
        refine g_sc (n := 6 * n + 1) rfl hS1 hS2 HX (hix 1 (by decide)) (lw_b 1 hlt (by decide)) ?_
        refine g1 (n := 1) rfl rfl rfl rfl ?_
        refine g1 (n := 1) rfl rfl rfl rfl ?_
        refine g1 (n := 1) rfl rfl rfl rfl ?_
        refine g0 rfl rfl rfl ?_
        refine g_sc (n := 6 * n + 2) rfl hS1 hS2 HX (hix 2 (by decide)) (lw_b 2 hlt (by decide)) ?_
        refine g0 rfl rfl rfl ?_
        refine g1 (n := 2) rfl rfl rfl rfl ?_
        refine g0 rfl rfl rfl ?_
        refine g1 (n := 1) rfl rfl rfl rfl ?_
        refine g1 (n := 1) rfl rfl rfl rfl ?_
        refine g1 (n := 1) rfl rfl rfl rfl ?_
        refine g0 rfl rfl rfl ?_
        refine g_sc (n := 6 * n + 3) rfl hS1 hS2 HX (hix 3 (by decide)) (lw_b 3 hlt (by decide)) ?_
        refine g0 rfl rfl rfl ?_
        refine g7 (n := 3) rfl rfl rfl rfl ?_
        refine g0 rfl rfl rfl ?_
        refine g0 rfl rfl rfl ?_
        refine g_iv (a := 22) (as := [.int _, .long _]) (rest := []) rfl (by decide) hgx rfl rfl (Nat.le_of_ble_eq_true rfl) ⟨Nat.le_of_ble_eq_true rfl, Nat.le_of_ble_eq_true rfl, Nat.le_of_ble_eq_true rfl⟩ ?_
        refine gx_room (gx_mono (hp_59 _ _ M HJ) ?_) (Nat.le_of_ble_eq_true rfl) (Nat.le_of_ble_eq_true rfl)
        rintro r h1 ⟨z, M1, rfl, rfl, HX, hm⟩
        refine g0 rfl rfl rfl ?_
        refine g1 (n := 1) rfl rfl rfl rfl ?_
        refine g1 (n := 1) rfl rfl rfl rfl ?_
        refine g1 (n := 1) rfl rfl rfl rfl ?_
        refine g1 (n := 1) rfl rfl rfl rfl ?_
        refine g0 rfl rfl rfl ?_
        refine g_sc (n := 6 * n + 1) rfl hS1 hS2 HX (hix 1 (by decide)) (lw_b 1 hlt (by decide)) ?_
        refine g1 (n := 1) rfl rfl rfl rfl ?_
        refine g1 (n := 1) rfl rfl rfl rfl ?_
        refine g1 (n := 1) rfl rfl rfl rfl ?_
        refine g0 rfl rfl rfl ?_
        refine g_sc (n := 6 * n + 2) rfl hS1 hS2 HX (hix 2 (by decide)) (lw_b 2 hlt (by decide)) ?_
        refine g0 rfl rfl rfl ?_
        refine g1 (n := 2) rfl rfl rfl rfl ?_
        refine g0 rfl rfl rfl ?_
        refine g1 (n := 1) rfl rfl rfl rfl ?_
        refine g1 (n := 1) rfl rfl rfl rfl ?_
        refine g1 (n := 1) rfl rfl rfl rfl ?_
        refine g0 rfl rfl rfl ?_
        refine g_sc (n := 6 * n + 3) rfl hS1 hS2 HX (hix 3 (by decide)) (lw_b 3 hlt (by decide)) ?_
        refine g0 rfl rfl rfl ?_
        refine g7 (n := 3) rfl rfl rfl rfl ?_
        refine g0 rfl rfl rfl ?_
        refine g0 rfl rfl rfl ?_
        refine g_iv (a := 353) (as := [.int _, .long _]) (rest := []) rfl (by decide) hgm rfl rfl (Nat.le_of_ble_eq_true rfl) ⟨Nat.le_of_ble_eq_true rfl, Nat.le_of_ble_eq_true rfl, Nat.le_of_ble_eq_true rfl⟩ ?_
        refine gx_room (gx_mono hm ?_) (Nat.le_of_ble_eq_true rfl) (Nat.le_of_ble_eq_true rfl)
        rintro r h2 ⟨z', M2, rfl, rfl, HJ2, hz⟩
        refine g0 rfl rfl rfl ?_
        refine g3 rfl rfl rfl ?_
        exact next M2 HJ2
      · clear hv ht
        show gx _ _ _ 332 _ _ _ _
        refine g1 (n := 1) rfl rfl rfl rfl ?_
        refine g1 (n := 1) rfl rfl rfl rfl ?_
        refine g1 (n := 1) rfl rfl rfl rfl ?_
        refine g1 (n := 1) rfl rfl rfl rfl ?_
        refine g0 rfl rfl rfl ?_
        refine g_sc (n := 6 * n + 1) rfl hS1 hS2 HX (hix 1 (by decide)) (lw_b 1 hlt (by decide)) ?_
        refine g_iv (a := 22) (as := [.int _]) (rest := []) rfl (by decide) hgx rfl rfl (Nat.le_of_ble_eq_true rfl) ⟨Nat.le_of_ble_eq_true rfl, Nat.le_of_ble_eq_true rfl, Nat.le_of_ble_eq_true rfl⟩ ?_
        refine gx_room (gx_mono (hp_79 _ M HJ) ?_) (Nat.le_of_ble_eq_true rfl) (Nat.le_of_ble_eq_true rfl)
        rintro r h1 ⟨z, M1, rfl, rfl, HX, hm⟩
        refine g0 rfl rfl rfl ?_
        refine g1 (n := 1) rfl rfl rfl rfl ?_
        refine g1 (n := 1) rfl rfl rfl rfl ?_
        refine g1 (n := 1) rfl rfl rfl rfl ?_
        refine g1 (n := 1) rfl rfl rfl rfl ?_
        refine g0 rfl rfl rfl ?_
        refine g_sc (n := 6 * n + 1) rfl hS1 hS2 HX (hix 1 (by decide)) (lw_b 1 hlt (by decide)) ?_
        refine g_iv (a := 353) (as := [.int _]) (rest := []) rfl (by decide) hgm rfl rfl (Nat.le_of_ble_eq_true rfl) ⟨Nat.le_of_ble_eq_true rfl, Nat.le_of_ble_eq_true rfl, Nat.le_of_ble_eq_true rfl⟩ ?_
        refine gx_room (gx_mono hm ?_) (Nat.le_of_ble_eq_true rfl) (Nat.le_of_ble_eq_true rfl)
        rintro r h2 ⟨z', M2, rfl, rfl, HJ2, hz⟩
        refine g0 rfl rfl rfl ?_
        refine g3 rfl rfl rfl ?_
        exact next M2 HJ2
      · clear hv ht
        show gx _ _ _ 355 _ _ _ _
        refine g1 (n := 1) rfl rfl rfl rfl ?_
        refine g1 (n := 1) rfl rfl rfl rfl ?_
        refine g1 (n := 1) rfl rfl rfl rfl ?_
        refine g1 (n := 1) rfl rfl rfl rfl ?_
        refine g0 rfl rfl rfl ?_
        refine g_sc (n := 6 * n + 1) rfl hS1 hS2 HX (hix 1 (by decide)) (lw_b 1 hlt (by decide)) ?_
        refine g_iv (a := 22) (as := [.int _]) (rest := []) rfl (by decide) hgx rfl rfl (Nat.le_of_ble_eq_true rfl) ⟨Nat.le_of_ble_eq_true rfl, Nat.le_of_ble_eq_true rfl, Nat.le_of_ble_eq_true rfl⟩ ?_
        refine gx_room (gx_mono (hp_80 _ M HJ) ?_) (Nat.le_of_ble_eq_true rfl) (Nat.le_of_ble_eq_true rfl)
        rintro r h1 ⟨z, M1, rfl, rfl, HX, hm⟩
        refine g0 rfl rfl rfl ?_
        refine g1 (n := 1) rfl rfl rfl rfl ?_
        refine g1 (n := 1) rfl rfl rfl rfl ?_
        refine g1 (n := 1) rfl rfl rfl rfl ?_
        refine g1 (n := 1) rfl rfl rfl rfl ?_
        refine g0 rfl rfl rfl ?_
        refine g_sc (n := 6 * n + 1) rfl hS1 hS2 HX (hix 1 (by decide)) (lw_b 1 hlt (by decide)) ?_
        refine g_iv (a := 353) (as := [.int _]) (rest := []) rfl (by decide) hgm rfl rfl (Nat.le_of_ble_eq_true rfl) ⟨Nat.le_of_ble_eq_true rfl, Nat.le_of_ble_eq_true rfl, Nat.le_of_ble_eq_true rfl⟩ ?_
        refine gx_room (gx_mono hm ?_) (Nat.le_of_ble_eq_true rfl) (Nat.le_of_ble_eq_true rfl)
        rintro r h2 ⟨z', M2, rfl, rfl, HJ2, hz⟩
        refine g0 rfl rfl rfl ?_
        refine g3 rfl rfl rfl ?_
        exact next M2 HJ2
      · clear hv ht
        show gx _ _ _ 378 _ _ _ _
        refine g1 (n := 1) rfl rfl rfl rfl ?_
        refine g1 (n := 1) rfl rfl rfl rfl ?_
        refine g1 (n := 1) rfl rfl rfl rfl ?_
        refine g1 (n := 1) rfl rfl rfl rfl ?_
        refine g0 rfl rfl rfl ?_
        refine g_sc (n := 6 * n + 1) rfl hS1 hS2 HX (hix 1 (by decide)) (lw_b 1 hlt (by decide)) ?_
        refine g1 (n := 1) rfl rfl rfl rfl ?_
        refine g1 (n := 1) rfl rfl rfl rfl ?_
        refine g1 (n := 1) rfl rfl rfl rfl ?_
        refine g0 rfl rfl rfl ?_
        refine g_sc (n := 6 * n + 2) rfl hS1 hS2 HX (hix 2 (by decide)) (lw_b 2 hlt (by decide)) ?_
        refine g_iv (a := 22) (as := [.int _, .int _]) (rest := []) rfl (by decide) hgx rfl rfl (Nat.le_of_ble_eq_true rfl) ⟨Nat.le_of_ble_eq_true rfl, Nat.le_of_ble_eq_true rfl, Nat.le_of_ble_eq_true rfl⟩ ?_
        refine gx_room (gx_mono (hp_81 _ _ M HJ) ?_) (Nat.le_of_ble_eq_true rfl) (Nat.le_of_ble_eq_true rfl)
        rintro r h1 ⟨z, M1, rfl, rfl, HX, hm⟩
        refine g0 rfl rfl rfl ?_
        refine g1 (n := 1) rfl rfl rfl rfl ?_
        refine g1 (n := 1) rfl rfl rfl rfl ?_
        refine g1 (n := 1) rfl rfl rfl rfl ?_
        refine g1 (n := 1) rfl rfl rfl rfl ?_
        refine g0 rfl rfl rfl ?_
        refine g_sc (n := 6 * n + 1) rfl hS1 hS2 HX (hix 1 (by decide)) (lw_b 1 hlt (by decide)) ?_
        refine g1 (n := 1) rfl rfl rfl rfl ?_
        refine g1 (n := 1) rfl rfl rfl rfl ?_
        refine g1 (n := 1) rfl rfl rfl rfl ?_
        refine g0 rfl rfl rfl ?_
        refine g_sc (n := 6 * n + 2) rfl hS1 hS2 HX (hix 2 (by decide)) (lw_b 2 hlt (by decide)) ?_
        refine g_iv (a := 353) (as := [.int _, .int _]) (rest := []) rfl (by decide) hgm rfl rfl (Nat.le_of_ble_eq_true rfl) ⟨Nat.le_of_ble_eq_true rfl, Nat.le_of_ble_eq_true rfl, Nat.le_of_ble_eq_true rfl⟩ ?_
        refine gx_room (gx_mono hm ?_) (Nat.le_of_ble_eq_true rfl) (Nat.le_of_ble_eq_true rfl)
        rintro r h2 ⟨z', M2, rfl, rfl, HJ2, hz⟩
        refine g0 rfl rfl rfl ?_
        refine g3 rfl rfl rfl ?_
        exact next M2 HJ2
      · clear hv ht
        show gx _ _ _ 411 _ _ _ _
        refine g1 (n := 1) rfl rfl rfl rfl ?_
        refine g1 (n := 1) rfl rfl rfl rfl ?_
        refine g1 (n := 1) rfl rfl rfl rfl ?_
        refine g1 (n := 1) rfl rfl rfl rfl ?_
        refine g0 rfl rfl rfl ?_
        refine g_sc (n := 6 * n + 1) rfl hS1 hS2 HX (hix 1 (by decide)) (lw_b 1 hlt (by decide)) ?_
        refine g_iv (a := 22) (as := [.int _]) (rest := []) rfl (by decide) hgx rfl rfl (Nat.le_of_ble_eq_true rfl) ⟨Nat.le_of_ble_eq_true rfl, Nat.le_of_ble_eq_true rfl, Nat.le_of_ble_eq_true rfl⟩ ?_
        refine gx_room (gx_mono (hp_84 _ M HJ) ?_) (Nat.le_of_ble_eq_true rfl) (Nat.le_of_ble_eq_true rfl)
        rintro r h1 ⟨z, M1, rfl, rfl, HX, hm⟩
        refine g0 rfl rfl rfl ?_
        refine g1 (n := 1) rfl rfl rfl rfl ?_
        refine g1 (n := 1) rfl rfl rfl rfl ?_
        refine g1 (n := 1) rfl rfl rfl rfl ?_
        refine g1 (n := 1) rfl rfl rfl rfl ?_
        refine g0 rfl rfl rfl ?_
        refine g_sc (n := 6 * n + 1) rfl hS1 hS2 HX (hix 1 (by decide)) (lw_b 1 hlt (by decide)) ?_
        refine g_iv (a := 353) (as := [.int _]) (rest := []) rfl (by decide) hgm rfl rfl (Nat.le_of_ble_eq_true rfl) ⟨Nat.le_of_ble_eq_true rfl, Nat.le_of_ble_eq_true rfl, Nat.le_of_ble_eq_true rfl⟩ ?_
        refine gx_room (gx_mono hm ?_) (Nat.le_of_ble_eq_true rfl) (Nat.le_of_ble_eq_true rfl)
        rintro r h2 ⟨z', M2, rfl, rfl, HJ2, hz⟩
        refine g0 rfl rfl rfl ?_
        refine g3 rfl rfl rfl ?_
        exact next M2 HJ2
      · clear hv ht
        show gx _ _ _ 434 _ _ _ _
        refine g1 (n := 1) rfl rfl rfl rfl ?_
        refine g1 (n := 1) rfl rfl rfl rfl ?_
        refine g1 (n := 1) rfl rfl rfl rfl ?_
        refine g1 (n := 1) rfl rfl rfl rfl ?_
        refine g0 rfl rfl rfl ?_
        refine g_sc (n := 6 * n + 1) rfl hS1 hS2 HX (hix 1 (by decide)) (lw_b 1 hlt (by decide)) ?_
        refine g0 rfl rfl rfl ?_
        refine g1 (n := 2) rfl rfl rfl rfl ?_
        refine g0 rfl rfl rfl ?_
        refine g1 (n := 1) rfl rfl rfl rfl ?_
        refine g1 (n := 1) rfl rfl rfl rfl ?_
        refine g1 (n := 1) rfl rfl rfl rfl ?_
        refine g0 rfl rfl rfl ?_
        refine g_sc (n := 6 * n + 2) rfl hS1 hS2 HX (hix 2 (by decide)) (lw_b 2 hlt (by decide)) ?_
        refine g0 rfl rfl rfl ?_
        refine g7 (n := 3) rfl rfl rfl rfl ?_
        refine g0 rfl rfl rfl ?_
        refine g0 rfl rfl rfl ?_
        refine g1 (n := 1) rfl rfl rfl rfl ?_
        refine g1 (n := 1) rfl rfl rfl rfl ?_
        refine g1 (n := 1) rfl rfl rfl rfl ?_
        refine g0 rfl rfl rfl ?_
        refine g_sc (n := 6 * n + 3) rfl hS1 hS2 HX (hix 3 (by decide)) (lw_b 3 hlt (by decide)) ?_
        refine g_iv (a := 22) (as := [.long _, .int _]) (rest := []) rfl (by decide) hgx rfl rfl (Nat.le_of_ble_eq_true rfl) ⟨Nat.le_of_ble_eq_true rfl, Nat.le_of_ble_eq_true rfl, Nat.le_of_ble_eq_true rfl⟩ ?_
        refine gx_room (gx_mono (hp_108 _ _ M HJ) ?_) (Nat.le_of_ble_eq_true rfl) (Nat.le_of_ble_eq_true rfl)
        rintro r h1 ⟨z, M1, rfl, rfl, HX, hm⟩
        refine g0 rfl rfl rfl ?_
        refine g1 (n := 1) rfl rfl rfl rfl ?_
        refine g1 (n := 1) rfl rfl rfl rfl ?_
        refine g1 (n := 1) rfl rfl rfl rfl ?_
        refine g1 (n := 1) rfl rfl rfl rfl ?_
        refine g0 rfl rfl rfl ?_
        refine g_sc (n := 6 * n + 1) rfl hS1 hS2 HX (hix 1 (by decide)) (lw_b 1 hlt (by decide)) ?_
        refine g0 rfl rfl rfl ?_
        refine g1 (n := 2) rfl rfl rfl rfl ?_
        refine g0 rfl rfl rfl ?_
        refine g1 (n := 1) rfl rfl rfl rfl ?_
        refine g1 (n := 1) rfl rfl rfl rfl ?_
        refine g1 (n := 1) rfl rfl rfl rfl ?_
        refine g0 rfl rfl rfl ?_
        refine g_sc (n := 6 * n + 2) rfl hS1 hS2 HX (hix 2 (by decide)) (lw_b 2 hlt (by decide)) ?_
        refine g0 rfl rfl rfl ?_
        refine g7 (n := 3) rfl rfl rfl rfl ?_
        refine g0 rfl rfl rfl ?_
        refine g0 rfl rfl rfl ?_
        refine g1 (n := 1) rfl rfl rfl rfl ?_
        refine g1 (n := 1) rfl rfl rfl rfl ?_
        refine g1 (n := 1) rfl rfl rfl rfl ?_
        refine g0 rfl rfl rfl ?_
        refine g_sc (n := 6 * n + 3) rfl hS1 hS2 HX (hix 3 (by decide)) (lw_b 3 hlt (by decide)) ?_
        refine g_iv (a := 353) (as := [.long _, .int _]) (rest := []) rfl (by decide) hgm rfl rfl (Nat.le_of_ble_eq_true rfl) ⟨Nat.le_of_ble_eq_true rfl, Nat.le_of_ble_eq_true rfl, Nat.le_of_ble_eq_true rfl⟩ ?_
        refine gx_room (gx_mono hm ?_) (Nat.le_of_ble_eq_true rfl) (Nat.le_of_ble_eq_true rfl)
        rintro r h2 ⟨z', M2, rfl, rfl, HJ2, hz⟩
        refine g0 rfl rfl rfl ?_
        refine g3 rfl rfl rfl ?_
        exact next M2 HJ2
      · clear hv ht
        show gx _ _ _ 497 _ _ _ _
        refine g1 (n := 1) rfl rfl rfl rfl ?_
        refine g1 (n := 1) rfl rfl rfl rfl ?_
        refine g1 (n := 1) rfl rfl rfl rfl ?_
        refine g1 (n := 1) rfl rfl rfl rfl ?_
        refine g0 rfl rfl rfl ?_
        refine g_sc (n := 6 * n + 1) rfl hS1 hS2 HX (hix 1 (by decide)) (lw_b 1 hlt (by decide)) ?_
        refine g1 (n := 1) rfl rfl rfl rfl ?_
        refine g1 (n := 1) rfl rfl rfl rfl ?_
        refine g1 (n := 1) rfl rfl rfl rfl ?_
        refine g0 rfl rfl rfl ?_
        refine g_sc (n := 6 * n + 2) rfl hS1 hS2 HX (hix 2 (by decide)) (lw_b 2 hlt (by decide)) ?_
        refine g_iv (a := 22) (as := [.int _, .int _]) (rest := []) rfl (by decide) hgx rfl rfl (Nat.le_of_ble_eq_true rfl) ⟨Nat.le_of_ble_eq_true rfl, Nat.le_of_ble_eq_true rfl, Nat.le_of_ble_eq_true rfl⟩ ?_
        refine gx_room (gx_mono (hp_109 _ _ M HJ) ?_) (Nat.le_of_ble_eq_true rfl) (Nat.le_of_ble_eq_true rfl)
        rintro r h1 ⟨z, M1, rfl, rfl, HX, hm⟩
        refine g0 rfl rfl rfl ?_
        refine g1 (n := 1) rfl rfl rfl rfl ?_
        refine g1 (n := 1) rfl rfl rfl rfl ?_
        refine g1 (n := 1) rfl rfl rfl rfl ?_
        refine g1 (n := 1) rfl rfl rfl rfl ?_
        refine g0 rfl rfl rfl ?_
        refine g_sc (n := 6 * n + 1) rfl hS1 hS2 HX (hix 1 (by decide)) (lw_b 1 hlt (by decide)) ?_
        refine g1 (n := 1) rfl rfl rfl rfl ?_
        refine g1 (n := 1) rfl rfl rfl rfl ?_
        refine g1 (n := 1) rfl rfl rfl rfl ?_
        refine g0 rfl rfl rfl ?_
        refine g_sc (n := 6 * n + 2) rfl hS1 hS2 HX (hix 2 (by decide)) (lw_b 2 hlt (by decide)) ?_
        refine g_iv (a := 353) (as := [.int _, .int _]) (rest := []) rfl (by decide) hgm rfl rfl (Nat.le_of_ble_eq_true rfl) ⟨Nat.le_of_ble_eq_true rfl, Nat.le_of_ble_eq_true rfl, Nat.le_of_ble_eq_true rfl⟩ ?_
        refine gx_room (gx_mono hm ?_) (Nat.le_of_ble_eq_true rfl) (Nat.le_of_ble_eq_true rfl)
        rintro r h2 ⟨z', M2, rfl, rfl, HJ2, hz⟩
        refine g0 rfl rfl rfl ?_
        refine g3 rfl rfl rfl ?_
        exact next M2 HJ2
      · clear hv ht
        show gx _ _ _ 530 _ _ _ _
        refine g1 (n := 1) rfl rfl rfl rfl ?_
        refine g1 (n := 1) rfl rfl rfl rfl ?_
        refine g1 (n := 1) rfl rfl rfl rfl ?_
        refine g1 (n := 1) rfl rfl rfl rfl ?_
        refine g0 rfl rfl rfl ?_
        refine g_sc (n := 6 * n + 1) rfl hS1 hS2 HX (hix 1 (by decide)) (lw_b 1 hlt (by decide)) ?_
        refine g1 (n := 1) rfl rfl rfl rfl ?_
        refine g1 (n := 1) rfl rfl rfl rfl ?_
        refine g1 (n := 1) rfl rfl rfl rfl ?_
        refine g0 rfl rfl rfl ?_
        refine g_sc (n := 6 * n + 2) rfl hS1 hS2 HX (hix 2 (by decide)) (lw_b 2 hlt (by decide)) ?_
        refine g_iv (a := 22) (as := [.int _, .int _]) (rest := []) rfl (by decide) hgx rfl rfl (Nat.le_of_ble_eq_true rfl) ⟨Nat.le_of_ble_eq_true rfl, Nat.le_of_ble_eq_true rfl, Nat.le_of_ble_eq_true rfl⟩ ?_
        refine gx_room (gx_mono (hp_111 _ _ M HJ) ?_) (Nat.le_of_ble_eq_true rfl) (Nat.le_of_ble_eq_true rfl)
        rintro r h1 ⟨z, M1, rfl, rfl, HX, hm⟩
        refine g0 rfl rfl rfl ?_
        refine g1 (n := 1) rfl rfl rfl rfl ?_
        refine g1 (n := 1) rfl rfl rfl rfl ?_
        refine g1 (n := 1) rfl rfl rfl rfl ?_
        refine g1 (n := 1) rfl rfl rfl rfl ?_
        refine g0 rfl rfl rfl ?_
        refine g_sc (n := 6 * n + 1) rfl hS1 hS2 HX (hix 1 (by decide)) (lw_b 1 hlt (by decide)) ?_
        refine g1 (n := 1) rfl rfl rfl rfl ?_
        refine g1 (n := 1) rfl rfl rfl rfl ?_
        refine g1 (n := 1) rfl rfl rfl rfl ?_
        refine g0 rfl rfl rfl ?_
        refine g_sc (n := 6 * n + 2) rfl hS1 hS2 HX (hix 2 (by decide)) (lw_b 2 hlt (by decide)) ?_
        refine g_iv (a := 353) (as := [.int _, .int _]) (rest := []) rfl (by decide) hgm rfl rfl (Nat.le_of_ble_eq_true rfl) ⟨Nat.le_of_ble_eq_true rfl, Nat.le_of_ble_eq_true rfl, Nat.le_of_ble_eq_true rfl⟩ ?_
        refine gx_room (gx_mono hm ?_) (Nat.le_of_ble_eq_true rfl) (Nat.le_of_ble_eq_true rfl)
        rintro r h2 ⟨z', M2, rfl, rfl, HJ2, hz⟩
        refine g0 rfl rfl rfl ?_
        refine g3 rfl rfl rfl ?_
        exact next M2 HJ2
      · clear hv ht
        show gx _ _ _ 563 _ _ _ _
        refine g1 (n := 1) rfl rfl rfl rfl ?_
        refine g_iv (a := 22) (as := []) (rest := []) rfl (by decide) hgx rfl rfl (Nat.le_of_ble_eq_true rfl) ⟨Nat.le_of_ble_eq_true rfl, Nat.le_of_ble_eq_true rfl, Nat.le_of_ble_eq_true rfl⟩ ?_
        refine gx_room (gx_mono (hp_112  M HJ) ?_) (Nat.le_of_ble_eq_true rfl) (Nat.le_of_ble_eq_true rfl)
        rintro r h1 ⟨z, M1, rfl, rfl, HX, hm⟩
        refine g0 rfl rfl rfl ?_
        refine g1 (n := 1) rfl rfl rfl rfl ?_
        refine g_iv (a := 353) (as := []) (rest := []) rfl (by decide) hgm rfl rfl (Nat.le_of_ble_eq_true rfl) ⟨Nat.le_of_ble_eq_true rfl, Nat.le_of_ble_eq_true rfl, Nat.le_of_ble_eq_true rfl⟩ ?_
        refine gx_room (gx_mono hm ?_) (Nat.le_of_ble_eq_true rfl) (Nat.le_of_ble_eq_true rfl)
        rintro r h2 ⟨z', M2, rfl, rfl, HJ2, hz⟩
        refine g0 rfl rfl rfl ?_
        refine g3 rfl rfl rfl ?_
        exact next M2 HJ2
      · clear hv ht
        show gx _ _ _ 576 _ _ _ _
        refine g1 (n := 1) rfl rfl rfl rfl ?_
        refine g_iv (a := 22) (as := []) (rest := []) rfl (by decide) hgx rfl rfl (Nat.le_of_ble_eq_true rfl) ⟨Nat.le_of_ble_eq_true rfl, Nat.le_of_ble_eq_true rfl, Nat.le_of_ble_eq_true rfl⟩ ?_
        refine gx_room (gx_mono (hp_113  M HJ) ?_) (Nat.le_of_ble_eq_true rfl) (Nat.le_of_ble_eq_true rfl)
        rintro r h1 ⟨z, M1, rfl, rfl, HX, hm⟩
        refine g0 rfl rfl rfl ?_
        refine g1 (n := 1) rfl rfl rfl rfl ?_
        refine g_iv (a := 353) (as := []) (rest := []) rfl (by decide) hgm rfl rfl (Nat.le_of_ble_eq_true rfl) ⟨Nat.le_of_ble_eq_true rfl, Nat.le_of_ble_eq_true rfl, Nat.le_of_ble_eq_true rfl⟩ ?_
        refine gx_room (gx_mono hm ?_) (Nat.le_of_ble_eq_true rfl) (Nat.le_of_ble_eq_true rfl)
        rintro r h2 ⟨z', M2, rfl, rfl, HJ2, hz⟩
        refine g0 rfl rfl rfl ?_
        refine g3 rfl rfl rfl ?_
        exact next M2 HJ2
      · clear hv ht
        show gx _ _ _ 589 _ _ _ _
        refine g1 (n := 1) rfl rfl rfl rfl ?_
        refine g1 (n := 1) rfl rfl rfl rfl ?_
        refine g1 (n := 1) rfl rfl rfl rfl ?_
        refine g1 (n := 1) rfl rfl rfl rfl ?_
        refine g0 rfl rfl rfl ?_
        refine g_sc (n := 6 * n + 1) rfl hS1 hS2 HX (hix 1 (by decide)) (lw_b 1 hlt (by decide)) ?_
        refine g1 (n := 1) rfl rfl rfl rfl ?_
        refine g1 (n := 1) rfl rfl rfl rfl ?_
        refine g1 (n := 1) rfl rfl rfl rfl ?_
        refine g0 rfl rfl rfl ?_
        refine g_sc (n := 6 * n + 2) rfl hS1 hS2 HX (hix 2 (by decide)) (lw_b 2 hlt (by decide)) ?_
        refine g_iv (a := 22) (as := [.int _, .int _]) (rest := []) rfl (by decide) hgx rfl rfl (Nat.le_of_ble_eq_true rfl) ⟨Nat.le_of_ble_eq_true rfl, Nat.le_of_ble_eq_true rfl, Nat.le_of_ble_eq_true rfl⟩ ?_
        refine gx_room (gx_mono (hp_114 _ _ M HJ) ?_) (Nat.le_of_ble_eq_true rfl) (Nat.le_of_ble_eq_true rfl)
        rintro r h1 ⟨z, M1, rfl, rfl, HX, hm⟩
        refine g0 rfl rfl rfl ?_
        refine g1 (n := 1) rfl rfl rfl rfl ?_
        refine g1 (n := 1) rfl rfl rfl rfl ?_
        refine g1 (n := 1) rfl rfl rfl rfl ?_
        refine g1 (n := 1) rfl rfl rfl rfl ?_
        refine g0 rfl rfl rfl ?_
        refine g_sc (n := 6 * n + 1) rfl hS1 hS2 HX (hix 1 (by decide)) (lw_b 1 hlt (by decide)) ?_
        refine g1 (n := 1) rfl rfl rfl rfl ?_
        refine g1 (n := 1) rfl rfl rfl rfl ?_
        refine g1 (n := 1) rfl rfl rfl rfl ?_
        refine g0 rfl rfl rfl ?_
        refine g_sc (n := 6 * n + 2) rfl hS1 hS2 HX (hix 2 (by decide)) (lw_b 2 hlt (by decide)) ?_
        refine g_iv (a := 353) (as := [.int _, .int _]) (rest := []) rfl (by decide) hgm rfl rfl (Nat.le_of_ble_eq_true rfl) ⟨Nat.le_of_ble_eq_true rfl, Nat.le_of_ble_eq_true rfl, Nat.le_of_ble_eq_true rfl⟩ ?_
        refine gx_room (gx_mono hm ?_) (Nat.le_of_ble_eq_true rfl) (Nat.le_of_ble_eq_true rfl)
        rintro r h2 ⟨z', M2, rfl, rfl, HJ2, hz⟩
        refine g0 rfl rfl rfl ?_
        refine g3 rfl rfl rfl ?_
        exact next M2 HJ2
      · clear hv ht
        show gx _ _ _ 622 _ _ _ _
        refine g1 (n := 1) rfl rfl rfl rfl ?_
        refine g1 (n := 1) rfl rfl rfl rfl ?_
        refine g1 (n := 1) rfl rfl rfl rfl ?_
        refine g1 (n := 1) rfl rfl rfl rfl ?_
        refine g0 rfl rfl rfl ?_
        refine g_sc (n := 6 * n + 1) rfl hS1 hS2 HX (hix 1 (by decide)) (lw_b 1 hlt (by decide)) ?_
        refine g_iv (a := 22) (as := [.int _]) (rest := []) rfl (by decide) hgx rfl rfl (Nat.le_of_ble_eq_true rfl) ⟨Nat.le_of_ble_eq_true rfl, Nat.le_of_ble_eq_true rfl, Nat.le_of_ble_eq_true rfl⟩ ?_
        refine gx_room (gx_mono (hp_117 _ M HJ) ?_) (Nat.le_of_ble_eq_true rfl) (Nat.le_of_ble_eq_true rfl)
        rintro r h1 ⟨z, M1, rfl, rfl, HX, hm⟩
        refine g0 rfl rfl rfl ?_
        refine g1 (n := 1) rfl rfl rfl rfl ?_
        refine g1 (n := 1) rfl rfl rfl rfl ?_
        refine g1 (n := 1) rfl rfl rfl rfl ?_
        refine g1 (n := 1) rfl rfl rfl rfl ?_
        refine g0 rfl rfl rfl ?_
        refine g_sc (n := 6 * n + 1) rfl hS1 hS2 HX (hix 1 (by decide)) (lw_b 1 hlt (by decide)) ?_
        refine g_iv (a := 353) (as := [.int _]) (rest := []) rfl (by decide) hgm rfl rfl (Nat.le_of_ble_eq_true rfl) ⟨Nat.le_of_ble_eq_true rfl, Nat.le_of_ble_eq_true rfl, Nat.le_of_ble_eq_true rfl⟩ ?_
        refine gx_room (gx_mono hm ?_) (Nat.le_of_ble_eq_true rfl) (Nat.le_of_ble_eq_true rfl)
        rintro r h2 ⟨z', M2, rfl, rfl, HJ2, hz⟩
        refine g0 rfl rfl rfl ?_
        refine g3 rfl rfl rfl ?_
        exact next M2 HJ2
      · clear hv ht
        show gx _ _ _ 645 _ _ _ _
        refine g1 (n := 1) rfl rfl rfl rfl ?_
        refine g_iv (a := 22) (as := []) (rest := []) rfl (by decide) hgx rfl rfl (Nat.le_of_ble_eq_true rfl) ⟨Nat.le_of_ble_eq_true rfl, Nat.le_of_ble_eq_true rfl, Nat.le_of_ble_eq_true rfl⟩ ?_
        refine gx_room (gx_mono (hp_118  M HJ) ?_) (Nat.le_of_ble_eq_true rfl) (Nat.le_of_ble_eq_true rfl)
        rintro r h1 ⟨z, M1, rfl, rfl, HX, hm⟩
        refine g1 (n := 1) rfl rfl rfl rfl ?_
        refine g_iv (a := 353) (as := []) (rest := [.int z]) rfl (by decide) hgm rfl rfl (Nat.le_of_ble_eq_true rfl) ⟨Nat.le_of_ble_eq_true rfl, Nat.le_of_ble_eq_true rfl, Nat.le_of_ble_eq_true rfl⟩ ?_
        refine gx_room (gx_mono hm ?_) (Nat.le_of_ble_eq_true rfl) (Nat.le_of_ble_eq_true rfl)
        rintro r h2 ⟨z', M2, rfl, rfl, HJ2, hz⟩
        have hz := hz rfl
        subst hz
        refine g_ic rfl (fun _ => ?_) (fun c => absurd (decide_eq_true rfl) c)
        exact next M2 HJ2
      · clear hv ht
        show gx _ _ _ 658 _ _ _ _
        refine g1 (n := 1) rfl rfl rfl rfl ?_
        refine g_iv (a := 22) (as := []) (rest := []) rfl (by decide) hgx rfl rfl (Nat.le_of_ble_eq_true rfl) ⟨Nat.le_of_ble_eq_true rfl, Nat.le_of_ble_eq_true rfl, Nat.le_of_ble_eq_true rfl⟩ ?_
        refine gx_room (gx_mono (hp_122  M HJ) ?_) (Nat.le_of_ble_eq_true rfl) (Nat.le_of_ble_eq_true rfl)
        rintro r h1 ⟨z, M1, rfl, rfl, HX, hm⟩
        refine g0 rfl rfl rfl ?_
        refine g1 (n := 1) rfl rfl rfl rfl ?_
        refine g_iv (a := 353) (as := []) (rest := []) rfl (by decide) hgm rfl rfl (Nat.le_of_ble_eq_true rfl) ⟨Nat.le_of_ble_eq_true rfl, Nat.le_of_ble_eq_true rfl, Nat.le_of_ble_eq_true rfl⟩ ?_
        refine gx_room (gx_mono hm ?_) (Nat.le_of_ble_eq_true rfl) (Nat.le_of_ble_eq_true rfl)
        rintro r h2 ⟨z', M2, rfl, rfl, HJ2, hz⟩
        refine g0 rfl rfl rfl ?_
        refine g3 rfl rfl rfl ?_
        exact next M2 HJ2
  refine g1 (n := 1) rfl rfl rfl rfl ?_
  refine g2 (n := 1) rfl rfl rfl rfl ?_
  exact loop L 0 (by omega) (by omega) M0 HJ0
