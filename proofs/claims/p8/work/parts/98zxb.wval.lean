/-! a number's value in the reference's scanner -/
theorem lv_val {b : Nat → Int32} {B : Nat → Int} {q : Nat} : ∀ k, k ≤ 9 → (∀ t, t < k → sp_d (b (q + t)) = true ∧ B (q + t) = (b (q + t)).toInt) → (lv64 B q k).toInt = (sp_val b q k).toInt
  | 0, _, _ => by
    show (Int64.ofNat 0).toInt = (0 : Int32).toInt
    decide
  | k + 1, h, hd => by
    have ih := lv_val (b := b) (B := B) (q := q) k (by omega) (fun t ht => hd t (by omega))
    obtain ⟨h1, h2⟩ := sp_val_b (b := b) (i := q) k (by omega) (fun t ht => (hd t (by omega)).1)
    obtain ⟨hk, hB⟩ := hd k (by omega)
    unfold sp_d at hk
    simp only [Bool.and_eq_true, decide_eq_true_eq] at hk
    have hp : (10 : Int) ^ k ≤ 100000000 := by
      have hk9 : k = 0 ∨ k = 1 ∨ k = 2 ∨ k = 3 ∨ k = 4 ∨ k = 5 ∨ k = 6 ∨ k = 7 ∨ k = 8 := by omega
      rcases hk9 with rfl | rfl | rfl | rfl | rfl | rfl | rfl | rfl | rfl <;> decide
    have e10 : (10 : Int32).toInt = 10 := by decide
    have e48 : (48 : Int32).toInt = 48 := by decide
    have m1 : (sp_val b q k * 10).toInt = (sp_val b q k).toInt * 10 := by
      rw [Int32.toInt_mul, e10]
      exact Int.bmod_eq_of_le (by omega) (by omega)
    have m2 : (b (q + k) - 48).toInt = (b (q + k)).toInt - 48 := by
      rw [Int32.toInt_sub, e48]
      exact Int.bmod_eq_of_le (by omega) (by omega)
    have m3 : (sp_val b q (k + 1)).toInt = (sp_val b q k).toInt * 10 + ((b (q + k)).toInt - 48) := by
      show (sp_val b q k * 10 + (b (q + k) - 48)).toInt = _
      rw [Int32.toInt_add, m1, m2]
      exact Int.bmod_eq_of_le (by omega) (by omega)
    have f10 : (Int64.ofNat 10).toInt = 10 := by decide
    have f48 : (Int64.ofNat 48).toInt = 48 := by decide
    have n0 : ((Int32.ofInt (B (q + k))).toInt64).toInt = (b (q + k)).toInt := by
      rw [Int32.toInt_toInt64, hB, Int32.ofInt_toInt]
    have n1 : ((Int64.ofNat 10) * lv64 B q k).toInt = 10 * (sp_val b q k).toInt := by
      rw [Int64.toInt_mul, f10, ih]
      exact Int.bmod_eq_of_le (by omega) (by omega)
    have n2 : (((Int64.ofNat 10) * lv64 B q k) + (Int32.ofInt (B (q + k))).toInt64).toInt = 10 * (sp_val b q k).toInt + (b (q + k)).toInt := by
      rw [Int64.toInt_add, n1, n0]
      exact Int.bmod_eq_of_le (by omega) (by omega)
    show ((((Int64.ofNat 10) * lv64 B q k) + (Int32.ofInt (B (q + k))).toInt64) - (Int64.ofNat 48)).toInt = _
    rw [Int64.toInt_sub, n2, f48, m3]
    rw [Int.bmod_eq_of_le (by omega) (by omega)]
    omega
theorem mtk_of {M M' : rf_M} {T : tK} {i n p f : Nat} {b : Nat → Int32} (h1 : tp M n b) (h3 : p ≤ n) (h4 : n ≤ p + f) (h5 : sp_scan b n f p = T.drop i) (h6 : i ≤ T.length) (hx : eqx nxw M M') (ht : tkd b n (sp_e sp_bl b n p) M') : mtk M' T i := by
  have hM' := h1.eq hx
  obtain ⟨t1, t2⟩ := ht
  rcases sp_scan_bl (b := b) f p h3 h4 with ⟨q1, q2⟩ | ⟨q1, f', q2, q3, q4⟩
  · rw [q1] at t2
    rcases t2 with ⟨-, u1, u2⟩ | ⟨u, -⟩
    · rw [q2] at h5
      have hi : i = T.length := by
        have := congrArg List.length h5
        rw [List.length_drop] at this
        simp at this
        omega
      subst hi
      refine ⟨?_, Nat.le_refl _, ?_⟩
      · rw [if_neg (by omega)]
        refine ⟨n, b, n, 0, hM', u2, Nat.le_refl _, by omega, ?_, Nat.le_refl _⟩
        rw [← h5]; rfl
      · have k0 : kd T T.length = 0 ∧ nb T T.length = 0 := by
          unfold kd nb
          rw [List.getElem?_eq_none (Nat.le_refl _)]
          exact ⟨rfl, rfl⟩
        rw [k0.1, k0.2]
        exact u1
    · omega
  · rcases t2 with ⟨u, -⟩ | ⟨u0, u1, u2⟩
    · omega
    · generalize sp_e sp_bl b n p = q at q1 q2 q3 q4 u0 u1 u2
      have e : sp_scan b n (f' + 1) q = ((sp_tok b n q).1, q, (sp_tok b n q).2.1) :: sp_scan b n f' (sp_tok b n q).2.2 := by
        show (if q < n then (if sp_bl (b q) = true then _ else _) else _) = _
        rw [if_pos q1, if_neg (by rw [q4]; decide)]
      rw [q3, e] at h5
      have hi : i < T.length := by
        rcases Nat.lt_or_ge i T.length with g | g
        · exact g
        · rw [List.drop_eq_nil_of_le g] at h5
          cases h5
      have hd := List.drop_eq_getElem_cons hi
      rw [hd] at h5
      have h5a := (List.cons.inj h5).1
      have h5b := (List.cons.inj h5).2
      have hT : T[i]? = some ((sp_tok b n q).1, q, (sp_tok b n q).2.1) := by
        rw [List.getElem?_eq_getElem hi, h5a]
      have hl := sp_tok_le (b := b) q1
      refine ⟨?_, Nat.le_of_lt hi, ?_⟩
      · rw [if_pos hi]
        exact ⟨n, b, _, f', hM', u2, hl.2, by omega, h5b, hi⟩
      · unfold kd nb
        rw [hT]
        exact u1
/-- a token, and a number's value -/
def mtv (M : rf_M) (T : tK) (i : Nat) : Prop := mtk M T i ∧ (kd T i = 2 → gl M 353 7 = (nb T i).toInt64)
theorem y_next0 {M : rf_M} {T : tK} {i : Nat} {K : rf_M → Prop} (h : nxk M T i) (kk : ∀ M', eqy nxw M M' → mtv M' T i → K M') : em_W_next M K := by
  obtain ⟨n, b, p, f, h1, h2, h3, h4, h5, h6⟩ := h
  refine we_next (K := fun M' => tkd b n (sp_e sp_bl b n p) M' ∧ mtk M' T i) (fun M' a y nv => kk M' y ⟨a.2, fun k2 => ?_⟩) ?_
  · obtain ⟨⟨t1, t2⟩, hm⟩ := a
    obtain ⟨g1, g2, g3, g4, g5, g6⟩ := hm
    have h43 : gi M' 353 4 = 3 := by rw [g3, k2]; decide
    rcases nv with nv | ⟨q, k, n1, n2, n3, n4⟩
    · exact absurd h43 nv
    rcases sp_scan_bl (b := b) f p h3 h4 with ⟨q1, q2⟩ | ⟨q1, f', q2, q3, q4⟩
    · exfalso
      rw [q2] at h5
      have hi : T.length ≤ i := by
        have := congrArg List.length h5
        rw [List.length_drop] at this
        simp at this
        omega
      unfold kd at k2
      rw [List.getElem?_eq_none hi] at k2
      exact absurd k2 (by decide)
    · generalize sp_e sp_bl b n p = q' at q1 q2 q3 q4 t1 t2
      obtain rfl : q' = q := by omega
      rcases t2 with ⟨u, -⟩ | ⟨u0, u1, u2⟩
      · omega
      have e : sp_scan b n (f' + 1) q' = ((sp_tok b n q').1, q', (sp_tok b n q').2.1) :: sp_scan b n f' (sp_tok b n q').2.2 := by
        show (if q' < n then (if sp_bl (b q') = true then _ else _) else _) = _
        rw [if_pos q1, if_neg (by rw [q4]; decide)]
      rw [q3, e] at h5
      have hi : i < T.length := by
        rcases Nat.lt_or_ge i T.length with g | g
        · exact g
        · rw [List.drop_eq_nil_of_le g] at h5
          cases h5
      have hd := List.drop_eq_getElem_cons hi
      rw [hd] at h5
      have h5a := (List.cons.inj h5).1
      have hT : T[i]? = some ((sp_tok b n q').1, q', (sp_tok b n q').2.1) := by
        rw [List.getElem?_eq_getElem hi, h5a]
      have hnb : nb T i = (sp_tok b n q').2.1 := by unfold nb; rw [hT]
      have hB : ∀ t, t < n → Bt M t = (b t).toInt := fun t ht => (h1.2.2 t ht).1
      rw [hB q' q1] at n3
      have hd1 : sp_d (b q') = true := by
        unfold sp_d
        simp only [Bool.and_eq_true, decide_eq_true_eq]
        omega
      have hl1 : sp_l (b q') = false := by
        unfold sp_l
        simp only [Bool.and_eq_false_iff, decide_eq_false_iff_not]
        omega
      have htok : sp_tok b n q' = ((if 9 < sp_e sp_d b n q' - q' then 3 else 2), sp_val b q' (min (sp_e sp_d b n q' - q') 9), sp_e sp_d b n q') := by
        unfold sp_tok
        rw [hl1, hd1]
        rfl
      have hle := sp_e_le (p := sp_d) (b := b) (n := n) (i := q') (by omega)
      have hk : k = sp_e sp_d b n q' - q' := by
        rw [htok] at u2
        have u2 : gi M' 353 3 = ((sp_e sp_d b n q' : Nat) : Int) := u2
        omega
      rw [hnb, htok, n4, hk]
      apply Int64.toInt_inj.mp
      rw [lv_val (b := b) _ (by omega) (fun t ht => ⟨sp_end_all _ q' (q' + t) (by omega) (by
        have : q' + t < sp_e sp_d b n q' := by omega
        exact this), hB _ (by omega)⟩), Int32.toInt_toInt64]
  · exact s_next0 h1 h2 h3 (fun M' hx ht => ⟨ht, mtk_of h1 h3 h4 h5 h6 hx ht⟩)
