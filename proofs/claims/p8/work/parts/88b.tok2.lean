def i202 (M0 : rf_M) (n q : Nat) (b : Nat → Int32) (m : Nat) (v2 : Int) (M' : rf_M) : Prop := ∃ e : Nat, gi M' 353 3 = e ∧ q ≤ e ∧ e ≤ n ∧ v2 = (e : Int) - q ∧ sp_e sp_d b n e = sp_e sp_d b n q ∧ eqx nxw M0 M' ∧ m = n - e ∧ gi M' 353 5 = q
def iz0 (M0 : rf_M) (n p : Nat) (b : Nat → Int32) (m : Nat) (M' : rf_M) : Prop := ∃ e : Nat, gi M' 353 3 = e ∧ p ≤ e ∧ e ≤ n ∧ sp_e sp_bl b n e = sp_e sp_bl b n p ∧ eqx nxw M0 M' ∧ m = n - e
section TKC
variable {M M0 : rf_M} {n q p : Nat} {b : Nat → Int32} {K : rf_M → Prop}
theorem s_next_202 (h0 : tp M0 n b) (hq : q < n) (hnl : sp_l (b q) = false) (hd : sp_d (b q) = true) (hat : gi M 353 3 = q) (htp : gi M 353 5 = q) (hx : eqx nxw M0 M) (kk : ∀ M', eqx nxw M0 M' → tkd b n q M' → K M') : w_next_202 0 M K := by
  have h8 := h0.2.1
  refine ⟨i202 M0 n q b, ⟨n - q, q, hat, Nat.le_refl _, by omega, by omega, rfl, hx, rfl, htp⟩, ?_⟩
  rintro m v2 M' ⟨e, h1, h2, h3, h5, h6, h9, h10, h11⟩
  have hM' := h0.eq h9
  have hv2 : inr v2 := inr_z (by omega) (by omega)
  have fin : ¬ (e < n ∧ sp_d (b e) = true) → (inr v2 ∧ ((v2 ≤ 9 → (w_next_283 3 M' K)) ∧ (¬ (v2 ≤ 9) → (w_next_283 1 M' K)))) := by
    intro hend
    have hee : sp_e sp_d b n q = e := by rw [← h6]; exact sp_e_no hend
    have htok : sp_tok b n q = ((if 9 < e - q then 3 else 2), sp_val b q (min (e - q) 9), e) := by
      unfold sp_tok
      rw [hnl, hd, hee]; rfl
    have put : ∀ (z : Int) (k : Int32), (sp_tok b n q).1 = k → z = tkm k.toInt → -1000 ≤ z → z ≤ 1000 → k = 2 ∨ k = 3 → w_next_283 z M' K := by
      intro z k q1 q4 q5 q6 q7 M4 e4
      have q8 : k.toInt = 2 ∨ k.toInt = 3 := by rcases q7 with rfl | rfl <;> decide
      refine kk M4 (by rw [e4]; exact h9.wi ⟨rfl, by omega, by omega⟩) ⟨by rw [e4, gi_of (by omega)]; exact h11, Or.inr ⟨hq, ⟨?_, fun g => absurd g (by rw [q1]; omega), fun g => absurd g (by rw [q1]; omega), by rw [q1]; exact Or.inl ⟨by omega, by omega⟩⟩, ?_⟩⟩
      · rw [e4, gi_at (inr_z (by omega) (by omega)), q1, q4]
      · rw [e4, gi_of (by omega), htok]; exact h1
    refine ⟨hv2, fun c => ?_, fun c => ?_⟩
    · exact put 3 2 (by rw [htok, if_neg (by omega)]) (by decide) (by omega) (by omega) (Or.inl rfl)
    · exact put 1 3 (by rw [htok, if_pos (by omega)]) (by decide) (by omega) (by omega) (Or.inr rfl)
  refine s_byteAt hM' h1 h3 (fun hen => ?_) (fun hen => ?_)
  rotate_left
  · exact s_isFigure_m ⟨inr_z (by omega) (by omega), fun _ => fin (fun g => absurd g.1 (by omega)), fun c => absurd rfl c⟩
  refine s_isFigure (fun hle => ?_) (fun hle => ⟨inr_z (by omega) (by omega), fun _ => fin (fun g => by rw [hle] at g; exact absurd g.2 (by decide)), fun c => absurd rfl c⟩)
  have step : ∀ (x : Int64) (M1 : rf_M), M1 = wl M' 353 7 x → ∀ M2, M2 = wi M1 353 3 (gi M1 353 3 + 1) → ∃ m', m' < m ∧ i202 M0 n q b m' (v2 + 1) M2 := by
    intro x M1 e1 M2 e2
    have g1 : gi M1 353 3 = e := by rw [e1]; exact h1
    refine ⟨n - (e + 1), by omega, e + 1, ?_, by omega, by omega, by omega, ?_, ?_, rfl, ?_⟩
    · rw [e2, gi_at (by rw [g1]; exact inr_z (by omega) (by omega)), g1]; omega
    · rw [← h6]; exact (sp_e_yes hen hle).symm
    · rw [e2, e1]; exact (h9.wl).wi ⟨rfl, by omega, by omega⟩
    · rw [e2, gi_of (by omega), e1]; exact h11
  refine ⟨inr_z (by omega) (by omega), fun c => absurd c (by omega), fun _ => ⟨hv2, fun c => ?_, fun c => ?_⟩⟩
  · exact step _
  · exact s_byteAt hM' h1 h3 (fun _ => step _) (fun g => absurd g (by omega))
/-- next(): from p on -/
theorem s_next0 (h0 : tp M n b) (hat : gi M 353 3 = p) (hp : p ≤ n) (kk : ∀ M', eqx nxw M M' → tkd b n (sp_e sp_bl b n p) M' → K M') : wm_next M K := by
  have h8 := h0.2.1
  refine ⟨iz0 M n p b, ⟨n - p, p, hat, Nat.le_refl _, hp, rfl, eqx.rfl' M, rfl⟩, ?_⟩
  rintro m M' ⟨e, h1, h2, h3, h6, h9, h10⟩
  have hM' := h0.eq h9
  have step : e < n → sp_bl (b e) = true → ∀ M1, M1 = wi M' 353 3 (gi M' 353 3 + 1) → ∃ m', m' < m ∧ iz0 M n p b m' M1 := by
    intro hen hb M1 e1
    refine ⟨n - (e + 1), by omega, e + 1, ?_, by omega, by omega, ?_, ?_, rfl⟩
    · rw [e1, gi_at (by rw [h1]; exact inr_z (by omega) (by omega)), h1]; omega
    · rw [← h6]; exact (sp_e_yes hen hb).symm
    · rw [e1]; exact h9.wi ⟨rfl, by omega, by omega⟩
  have bend : e = n → sp_e sp_bl b n p = n := fun g => by rw [← h6, g]; exact sp_e_no (fun w => absurd w.1 (by omega))
  refine s_byteAt hM' h1 h3 (fun hen => ?_) (fun hen => ?_)
  · have hby := hM'.2.2 e hen
    refine ⟨inr_ti _, fun c => step hen (by unfold sp_bl; rw [c]; rfl), fun c => ?_⟩
    refine s_byteAt hM' h1 h3 (fun _ => ⟨inr_ti _, fun c2 => step hen (by unfold sp_bl; rw [c2]; rfl), fun c2 => ?_⟩) (fun g => absurd g (by omega))
    have hq : sp_e sp_bl b n p = e := by
      rw [← h6]
      refine sp_e_no (fun w => ?_)
      have := w.2
      unfold sp_bl at this
      simp at this
      omega
    rw [hq] at kk
    intro M3 e3
    have h3' : eqx nxw M M3 := by rw [e3]; exact h9.wi ⟨rfl, by omega, by omega⟩
    have g3 : gi M3 353 3 = e := by rw [e3, gi_of (by omega)]; exact h1
    have g5 : gi M3 353 5 = e := by rw [e3, h1, gi_at (inr_z (by omega) (by omega))]
    refine s_byteAt (h0.eq h3') g3 h3 (fun _ => ⟨inr_ti _, fun _ => ?_, fun c => absurd hby.2.1 c⟩) (fun g => absurd g (by omega))
    refine s_isSmall (fun hl => ⟨inr_z (by omega) (by omega), fun c => absurd c (by omega), fun _ => s_next_79 h0 hen hl g3 g5 h3' kk⟩) (fun hnl => ⟨inr_z (by omega) (by omega), fun _ => ?_, fun c => absurd rfl c⟩)
    refine s_isFigure (fun hd => ⟨inr_z (by omega) (by omega), fun c => absurd c (by omega), fun _ M9 e9 => s_next_202 h0 hen hnl hd (by rw [e9]; exact g3) (by rw [e9]; exact g5) (by rw [e9]; exact h3'.wl) kk⟩) (fun hnd => ⟨inr_z (by omega) (by omega), fun _ => ?_, fun c => absurd rfl c⟩)
    intro M7 e7
    have h7' : eqx nxw M M7 := by rw [e7]; exact h3'.wi ⟨rfl, by omega, by omega⟩
    have k3 : gi M7 353 3 = e := by rw [e7, gi_of (by omega)]; exact g3
    have k5 : gi M7 353 5 = e := by rw [e7, gi_of (by omega)]; exact g5
    have k8 : gi M7 353 8 = (b e).toInt := by rw [e7, gi_at (inr_ti _)]
    have htok : sp_tok b n e = ((if sp_s (b e) = true then b e else 3), 0, e + 1) := by
      unfold sp_tok
      rw [hnl, hnd]; rfl
    have put : ∀ (z : Int) (k : Int32), (sp_tok b n e).1 = k → z = tkm k.toInt → -1000 ≤ z → z ≤ 1000 → (20 ≤ k.toInt → k = b e) → ¬ k.toInt = 1 → kok k → w_next_307 z M7 K := by
      intro z k q1 q4 q5 q6 q7 q9 q8 M1 e1 M2 e2
      have j3 : gi M1 353 3 = e := by rw [e1, gi_of (by omega)]; exact k3
      refine kk M2 (by rw [e2, e1]; exact (h7'.wi ⟨rfl, by omega, by omega⟩).wi ⟨rfl, by omega, by omega⟩) ⟨by rw [e2, gi_of (by omega), e1, gi_of (by omega)]; exact k5, Or.inr ⟨hen, ⟨?_, fun g => ?_, fun g => absurd g (by rw [q1]; exact q9), by rw [q1]; exact q8⟩, ?_⟩⟩
      · rw [e2, gi_of (by omega), e1, gi_at (inr_z (by omega) (by omega)), q1, q4]
      · rw [q1] at g ⊢
        rw [e2, gi_of (by omega), e1, gi_of (by omega), k8, q7 g]
      · rw [e2, j3, gi_at (inr_z (by omega) (by omega)), htok]
        show (e : Int) + 1 = ((e + 1 : Nat) : Int)
        omega
    refine s_isSignByte (fun hs => ⟨inr_z (by omega) (by omega), fun c => absurd c (by omega), fun _ => ?_⟩) (fun hs => ⟨inr_z (by omega) (by omega), fun _ => ?_, fun c => absurd rfl c⟩)
    · have hsi := (sp_s_iff _).mp hs
      refine put 4 (b e) (by rw [htok, if_pos hs]) ?_ (by omega) (by omega) (fun _ => rfl) (by omega) (Or.inr (Or.inr hs))
      unfold tkm
      rw [if_neg (by omega), if_neg (by omega), if_neg (by omega), if_neg (by omega), if_neg (by omega)]
    · exact put 1 3 (by rw [htok, hs]; rfl) (by decide) (by omega) (by omega) (fun g => absurd g (by decide)) (by decide) (Or.inl ⟨by decide, by decide⟩)
  · refine ⟨inr_z (by omega) (by omega), fun c => absurd c (by omega), fun _ => ?_⟩
    refine s_byteAt hM' h1 h3 (fun g => absurd g (by omega)) (fun _ => ⟨inr_z (by omega) (by omega), fun c => absurd c (by omega), fun _ => ?_⟩)
    intro M3 e3
    have h3' : eqx nxw M M3 := by rw [e3]; exact h9.wi ⟨rfl, by omega, by omega⟩
    have g3 : gi M3 353 3 = e := by rw [e3, gi_of (by omega)]; exact h1
    have g5 : gi M3 353 5 = e := by rw [e3, h1, gi_at (inr_z (by omega) (by omega))]
    refine s_byteAt (h0.eq h3') g3 h3 (fun g => absurd g (by omega)) (fun _ => ⟨inr_z (by omega) (by omega), fun c => absurd c (by omega), fun _ => ?_⟩)
    intro M4 e4
    rw [bend hen] at kk
    refine kk M4 (by rw [e4]; exact h3'.wi ⟨rfl, by omega, by omega⟩) ⟨by rw [e4, gi_of (by omega), ← hen]; exact g5, Or.inl ⟨rfl, ⟨by rw [e4, gi_at (inr_z (by omega) (by omega))]; rfl, fun g => absurd g (by decide), fun g => absurd g (by decide), Or.inl ⟨by decide, by decide⟩⟩, by rw [e4, gi_of (by omega), ← hen]; exact g3⟩⟩
end TKC
/-- the tokens from place i on are still to come -/
def nxk (M : rf_M) (T : tK) (i : Nat) : Prop := ∃ n b p f, tp M n b ∧ gi M 353 3 = (p : Nat) ∧ p ≤ n ∧ n ≤ p + f ∧ sp_scan b n f p = T.drop i ∧ i ≤ T.length
/-- token i is there -/
def mtk (M : rf_M) (T : tK) (i : Nat) : Prop := nxk M T (if i < T.length then i + 1 else i) ∧ i ≤ T.length ∧ tkf M (kd T i) (nb T i)
theorem sp_scan_bl {b : Nat → Int32} {n : Nat} : ∀ (f p : Nat), p ≤ n → n ≤ p + f → (sp_e sp_bl b n p = n ∧ sp_scan b n f p = []) ∨ (sp_e sp_bl b n p < n ∧ ∃ f', n ≤ sp_e sp_bl b n p + (f' + 1) ∧ sp_scan b n f p = sp_scan b n (f' + 1) (sp_e sp_bl b n p) ∧ sp_bl (b (sp_e sp_bl b n p)) = false)
  | 0, p, h1, h2 => by
    have : p = n := by omega
    subst this
    exact Or.inl ⟨sp_e_no (fun w => absurd w.1 (by omega)), rfl⟩
  | f + 1, p, h1, h2 => by
    by_cases hp : p < n
    · cases hb : sp_bl (b p) with
      | true =>
        have e : sp_scan b n (f + 1) p = sp_scan b n f (p + 1) := by
          show (if p < n then (if sp_bl (b p) = true then _ else _) else _) = _
          rw [if_pos hp, if_pos hb]
        rw [sp_e_yes hp hb, e]
        exact sp_scan_bl f (p + 1) (by omega) (by omega)
      | false =>
        have e := sp_e_no (p := sp_bl) (b := b) (n := n) (i := p) (fun w => by rw [hb] at w; exact absurd w.2 (by decide))
        rw [e]
        exact Or.inr ⟨hp, f, by omega, rfl, hb⟩
    · have : p = n := by omega
      subst this
      refine Or.inl ⟨sp_e_no (fun w => absurd w.1 (by omega)), ?_⟩
      show (if p < p then _ else _) = _
      rw [if_neg (by omega)]
theorem sp_tok_le {b : Nat → Int32} {n q : Nat} (h : q < n) : q < (sp_tok b n q).2.2 ∧ (sp_tok b n q).2.2 ≤ n := by
  unfold sp_tok
  split
  · rename_i hl
    have h1 := sp_e_yes (p := sp_l) (b := b) h hl
    have h2 := sp_e_le (p := sp_l) (b := b) (n := n) (i := q + 1) (by omega)
    split
    · dsimp only; omega
    · dsimp only; omega
  · split
    · rename_i hl
      have h1 := sp_e_yes (p := sp_d) (b := b) h hl
      have h2 := sp_e_le (p := sp_d) (b := b) (n := n) (i := q + 1) (by omega)
      dsimp only; omega
    · dsimp only; omega
theorem s_next {M : rf_M} {T : tK} {i : Nat} {K : rf_M → Prop} (h : nxk M T i) (kk : ∀ M', eqx nxw M M' → mtk M' T i → K M') : wm_next M K := by
  obtain ⟨n, b, p, f, h1, h2, h3, h4, h5, h6⟩ := h
  refine s_next0 h1 h2 h3 (fun M' hx ht => kk M' hx ?_)
  have hM' := h1.eq hx
  obtain ⟨t1, t2⟩ := ht
  rcases sp_scan_bl (b := b) f p h3 h4 with ⟨q1, q2⟩ | ⟨q1, f', q2, q3, q4⟩
  · rw [q1] at t2
    rcases t2 with ⟨-, u1, u2⟩ | ⟨u, -⟩
    · rw [q2] at h5
      have hi : i = T.length := by
        have := congrArg List.length h5
        rw [List.length_drop] at this
        simp at this
        omega
      subst hi
      refine ⟨?_, Nat.le_refl _, ?_⟩
      · rw [if_neg (by omega)]
        refine ⟨n, b, n, 0, hM', u2, Nat.le_refl _, by omega, ?_, Nat.le_refl _⟩
        rw [← h5]; rfl
      · have k0 : kd T T.length = 0 ∧ nb T T.length = 0 := by
          unfold kd nb
          rw [List.getElem?_eq_none (Nat.le_refl _)]
          exact ⟨rfl, rfl⟩
        rw [k0.1, k0.2]
        exact u1
    · omega
  · rcases t2 with ⟨u, -⟩ | ⟨u0, u1, u2⟩
    · omega
    · generalize sp_e sp_bl b n p = q at q1 q2 q3 q4 u0 u1 u2
      have e : sp_scan b n (f' + 1) q = ((sp_tok b n q).1, q, (sp_tok b n q).2.1) :: sp_scan b n f' (sp_tok b n q).2.2 := by
        show (if q < n then (if sp_bl (b q) = true then _ else _) else _) = _
        rw [if_pos q1, if_neg (by rw [q4]; decide)]
      rw [q3, e] at h5
      have hi : i < T.length := by
        rcases Nat.lt_or_ge i T.length with g | g
        · exact g
        · rw [List.drop_eq_nil_of_le g] at h5
          cases h5
      have hd := List.drop_eq_getElem_cons hi
      rw [hd] at h5
      have h5a := (List.cons.inj h5).1
      have h5b := (List.cons.inj h5).2
      have hT : T[i]? = some ((sp_tok b n q).1, q, (sp_tok b n q).2.1) := by
        rw [List.getElem?_eq_getElem hi, h5a]
      have hl := sp_tok_le (b := b) q1
      refine ⟨?_, Nat.le_of_lt hi, ?_⟩
      · rw [if_pos hi]
        exact ⟨n, b, _, f', hM', u2, hl.2, by omega, h5b, hi⟩
      · unfold kd nb
        rw [hT]
        exact u1
