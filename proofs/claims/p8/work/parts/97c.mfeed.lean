/-! THE REFERENCE'S feed -/
theorem byt0 (x : BitVec 32) (s : Nat) (hs : s ≤ 24) : ((x.sshiftRight s).signExtend 8).signExtend 32 &&& 255#32 = (x >>> s) &&& 255#32 := by
  apply BitVec.eq_of_getLsbD_eq
  intro i hi
  have h255 : (255#32).getLsbD i = decide (i < 8) := by
    have : ∀ j : Fin 32, (255#32).getLsbD j.1 = decide (j.1 < 8) := by decide
    exact this ⟨i, hi⟩
  rw [BitVec.getLsbD_and, BitVec.getLsbD_and, h255]
  by_cases h8 : i < 8
  · simp [h8]
    rw [BitVec.getLsbD_signExtend, BitVec.getLsbD_signExtend, BitVec.getLsbD_sshiftRight]
    simp [h8, hi]
    have : s + i < 32 := by omega
    simp [this]
    intro h
    omega
  · simp [h8]
theorem byt (x : Int32) (t : Nat) (ht : t < 4) : (Int32.ofInt (Int32.ofInt (Int32.ofInt (Int32.ofInt x.toInt >>> (Int32.ofInt (24 - 8 * (t : Int)) &&& 31)).toInt).toInt8.toInt32.toInt).toInt8.toInt32.toInt &&& Int32.ofInt 255).toInt = (fb x t).toInt := by
  refine congrArg Int32.toInt ?_
  rw [Int32.ofInt_toInt, Int32.ofInt_toInt, Int32.ofInt_toInt, Int32.ofInt_toInt]
  have e8 : ∀ y : Int32, y.toInt8.toInt32.toInt8.toInt32 = y.toInt8.toInt32 := fun y => by rw [Int8.toInt8_toInt32]
  rw [e8]
  unfold fb sh8
  refine Int32.toBitVec_inj.mp ?_
  have h : t = 0 ∨ t = 1 ∨ t = 2 ∨ t = 3 := by omega
  have e255 : (Int32.ofInt 255).toBitVec = 255#32 := by decide
  have e255' : (Int16.ofInt 255).toInt32.toBitVec = 255#32 := by decide
  rw [Int32.toBitVec_and, Int32.toBitVec_and, e255, e255', Int8.toBitVec_toInt32, Int32.toBitVec_toInt8, Int32.toBitVec_shiftRight]
  have eu : ∀ y : UInt32, y.toInt32.toBitVec = y.toBitVec := fun y => rfl
  rw [eu, UInt32.toBitVec_shiftRight]
  rcases h with rfl | rfl | rfl | rfl
  · exact byt0 x.toBitVec 24 (by omega)
  · exact byt0 x.toBitVec 16 (by omega)
  · exact byt0 x.toBitVec 8 (by omega)
  · exact byt0 x.toBitVec 0 (by omega)
theorem fb_le (x : Int32) (t : Nat) : 0 ≤ (fb x t).toInt ∧ (fb x t).toInt ≤ 255 := by
  unfold fb
  generalize (x.toUInt32 >>> ((sh8 t).toUInt32 &&& Int32.toUInt32 31)).toInt32 = y
  have e255' : (Int16.ofInt 255).toInt32.toBitVec = 255#32 := by decide
  have h : (y &&& (Int16.ofInt 255).toInt32).toBitVec.toNat ≤ 255 := by
    rw [Int32.toBitVec_and, e255', BitVec.toNat_and]
    exact Nat.and_le_right
  have h2 : (y &&& (Int16.ofInt 255).toInt32).toInt = (y &&& (Int16.ofInt 255).toInt32).toBitVec.toInt := rfl
  rw [h2, BitVec.toInt_eq_toNat_of_lt (by omega)]
  omega

theorem q4_ : ∀ j : Fin 20, (Int32.ofInt (j.1 : Int) / Int32.ofInt 4).toInt = ((j.1 / 4 : Nat) : Int) ∧ (Int32.ofInt (j.1 : Int) - Int32.ofInt (j.1 : Int) / Int32.ofInt 4 * Int32.ofInt 4).toInt = ((j.1 % 4 : Nat) : Int) := by decide
/-- byte t of five numbers -/
theorem fb5_at (a b c d e : Int32) {j : Nat} (hj : j < 20) : fb5 a b c d e j = fb (if j / 4 = 0 then a else if j / 4 = 1 then b else if j / 4 = 2 then c else if j / 4 = 3 then d else e) (j % 4) := by
  unfold fb5
  by_cases h4 : j < 4
  · rw [if_pos h4, if_pos (by omega), show j % 4 = j by omega]
  rw [if_neg h4, if_neg (show ¬ j / 4 = 0 by omega)]
  by_cases h8 : j < 8
  · rw [if_pos h8, if_pos (by omega), show j % 4 = j - 4 by omega]
  rw [if_neg h8, if_neg (show ¬ j / 4 = 1 by omega)]
  by_cases h12 : j < 12
  · rw [if_pos h12, if_pos (by omega), show j % 4 = j - 8 by omega]
  rw [if_neg h12, if_neg (show ¬ j / 4 = 2 by omega)]
  by_cases h16 : j < 16
  · rw [if_pos h16, if_pos (by omega), show j % 4 = j - 12 by omega]
  rw [if_neg h16, if_neg (show ¬ j / 4 = 3 by omega), show j % 4 = j - 16 by omega]
theorem fb5_le (a b c d e : Int32) (t : Nat) : 0 ≤ (fb5 a b c d e t).toInt ∧ (fb5 a b c d e t).toInt ≤ 255 := by
  unfold fb5
  split
  · exact fb_le _ _
  · split
    · exact fb_le _ _
    · split
      · exact fb_le _ _
      · split
        · exact fb_le _ _
        · exact fb_le _ _
def fdw (n j a k : Nat) : Prop := (a = 353 ∧ (k = 0 ∨ k = 2)) ∨ (a = 354 ∧ n ≤ k ∧ k < n + j)
theorem s_feed {M : rf_M} {n : Nat} {a b c d e : Int32} {K : Int → rf_M → Prop} (hn : gi M 353 2 = (n : Int)) (h8 : n ≤ 800) (kg : n ≤ 780 → ∀ M', eqx (fdw n 20) M M' → gi M' 353 2 = ((n + 20 : Nat) : Int) → (∀ t, t < 20 → (Int32.ofInt (gi M' 354 (n + t)) &&& Int32.ofInt 255).toInt = (fb5 a b c d e t).toInt) → K ((n + 20 : Nat) : Int) M') (kb : 780 < n → K (-1) (wi M 353 0 0)) : wm_feed a.toInt b.toInt c.toInt d.toInt e.toInt M K := by
  intro M1 e1
  have s1 : gi M1 353 2 = (n : Int) := by rw [e1, gi_of (by omega)]; exact hn
  have x1 : eqx (fdw n 0) M M1 := by rw [e1]; exact (eqx.rfl' M).wi (Or.inl ⟨rfl, Or.inl rfl⟩)
  rw [s1]
  refine ⟨inr_z (by omega) (by omega), fun z => ?_, fun z => by rw [e1]; exact kb (by omega)⟩
  clear e1
  refine ⟨fun m v1 v2 v3 v4 v5 v6 M' => (v1 = a.toInt ∧ v2 = b.toInt ∧ v3 = c.toInt ∧ v4 = d.toInt ∧ v5 = e.toInt) ∧ ∃ j : Nat, v6 = (j : Int) ∧ j ≤ 20 ∧ m = 20 - j ∧ gi M' 353 2 = ((n + j : Nat) : Int) ∧ eqx (fdw n j) M M' ∧ ∀ t, t < j → (Int32.ofInt (gi M' 354 (n + t)) &&& Int32.ofInt 255).toInt = (fb5 a b c d e t).toInt, ⟨20, ⟨rfl, rfl, rfl, rfl, rfl⟩, 0, rfl, by omega, rfl, s1, x1, fun t ht => absurd ht (Nat.not_lt_zero _)⟩, ?_⟩
  rintro m v1 v2 v3 v4 v5 v6 M2 ⟨⟨rfl, rfl, rfl, rfl, rfl⟩, j, rfl, j1, j2, s2, x2, hb⟩
  refine ⟨inr_z (by omega) (by omega), fun w => ?_, fun w => ?_⟩
  · have hj : j = 20 := by omega
    subst hj
    rw [s2]
    exact kg (by omega) M2 x2 s2 hb
  have hj : j < 20 := by omega
  obtain ⟨q1, q2⟩ := q4_ ⟨j, hj⟩
  dsimp only at q1 q2
  have put : ∀ x : Int32, fb5 a b c d e j = fb x (j % 4) → w_feed_78 a.toInt b.toInt c.toInt d.toInt e.toInt (j : Int) x.toInt M2 (fun (v1' v2' v3' v4' v5' v6' : Int) (M' : rf_M) => ∃ m', m' < m ∧ ((v1' = a.toInt ∧ v2' = b.toInt ∧ v3' = c.toInt ∧ v4' = d.toInt ∧ v5' = e.toInt) ∧ ∃ j : Nat, v6' = (j : Int) ∧ j ≤ 20 ∧ m' = 20 - j ∧ gi M' 353 2 = ((n + j : Nat) : Int) ∧ eqx (fdw n j) M M' ∧ ∀ t, t < j → (Int32.ofInt (gi M' 354 (n + t)) &&& Int32.ofInt 255).toInt = (fb5 a b c d e t).toInt)) K := by
    intro x hx
    unfold w_feed_78
    rw [s2, q2, show (((n + j : Nat) : Int)).toNat = n + j by omega]
    refine ⟨⟨by omega, by omega⟩, fun M3 e3 M4 e4 => ?_⟩
    have s3 : gi M3 353 2 = ((n + j : Nat) : Int) := by rw [e3, gi_of (by omega)]; exact s2
    rw [s3] at e4
    refine ⟨20 - (j + 1), by omega, ⟨rfl, rfl, rfl, rfl, rfl⟩, j + 1, by omega, by omega, rfl, ?_, ?_, fun t ht => ?_⟩
    · rw [e4, gi_at (inr_z (by omega) (by omega))]; omega
    · rw [e4, e3]
      refine ((x2.mono (fun a k z => ?_)).wi ?_).wi ?_
      · unfold fdw at z ⊢; omega
      · exact Or.inr ⟨rfl, by omega, by omega⟩
      · exact Or.inl ⟨rfl, Or.inr rfl⟩
    · by_cases htj : t = j
      · rw [htj, e4, gi_of (by omega), e3, gi_at (inr_ti _), hx]
        exact byt x (j % 4) (by omega)
      · rw [e4, gi_of (by omega), e3, gi_of (by omega)]
        exact hb t (by omega)
  have h5 := fb5_at a b c d e hj
  rw [q1]
  refine ⟨fun w0 => put a ?_, fun w0 => ⟨fun w1 => put b ?_, fun w1 => ⟨fun w2 => put c ?_, fun w2 => ⟨fun w3 => put d ?_, fun w3 => put e ?_⟩⟩⟩⟩
  · rw [h5, if_pos (by omega)]
  · rw [h5, if_neg (by omega), if_pos (by omega)]
  · rw [h5, if_neg (by omega), if_neg (by omega), if_pos (by omega)]
  · rw [h5, if_neg (by omega), if_neg (by omega), if_neg (by omega), if_pos (by omega)]
  · rw [h5, if_neg (by omega), if_neg (by omega), if_neg (by omega), if_neg (by omega)]
