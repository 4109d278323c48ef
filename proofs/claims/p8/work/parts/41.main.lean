/-! THE WALK IS SOUND -/
def sx_mv (c : sxC) (args : List Value) : Nat := c.2.2.2.2.1 + c.2.2.2.2.2.1 * (match args[c.2.2.2.2.2.2.1]? with
  | some (.int z) => (c.2.2.2.2.2.2.2.1 - z.toInt).toNat
  | _ => 0)
def sx_rm (T : sxT) (d : Nat × Nat) (μ : Nat) : Prop := μ ≤ d.1 ∧ μ * T.2.2.2 + 30 ≤ d.2
def sx_pok (U : sxU) (post : Option sxF) (v : Option Value) : Prop := match post, v with
  | none, none => True
  | some f, some w => sx_fits U f w
  | _, _ => False
def sx_cok (T : sxT) (U : sxU) (c : sxC) (args : List Value) : Prop := ∀ (M : rf_M) (d : Nat × Nat), sx_rm T d (sx_mv c args) → sx_in U M → sx_fitl U c.2.1 args → gx U.1.1 d c.1 0 (lv_args 0 args) [] (M, U.1.2.2.2.1) (fun v h' => ∃ M', h' = (M', U.1.2.2.2.1) ∧ sx_in U M' ∧ sx_fr U c.2.2.2.1 M M' ∧ sx_pok U c.2.2.1 v)
def sx_mu (q : sxQ) (W : sxW) (μ : Nat) : Prop := match q.2.2.1 with
  | none => μ = q.2.1
  | some m => ∃ y, W.1[m.2.1]? = some y ∧ μ = q.2.1 + m.1 * (m.2.2 - y).toNat
section SXB
variable {T : sxT} {U : sxU} {W W' : sxW} {E : sxE} {M M' M0 : rf_M} {sst : List sxV} {st : List Value}
theorem sx_mu.mono {q : sxQ} {μ : Nat} (hw : sx_le W W') (h : sx_mu q W μ) : sx_mu q W' μ := by
  unfold sx_mu at h ⊢
  split
  · rename_i e
    rw [e] at h
    exact h
  · rename_i m e
    rw [e] at h
    obtain ⟨y, h1, h2⟩ := h
    exact ⟨y, hw.1 _ _ h1, h2⟩
theorem sx_mu.base {q : sxQ} {μ : Nat} (h : sx_mu q W μ) : q.2.1 ≤ μ := by
  unfold sx_mu at h
  split at h
  · omega
  · obtain ⟨y, h1, h2⟩ := h
    rw [h2]
    exact Nat.le_add_right _ _
theorem sx_mlto {q : sxQ} {c : sxC} {xs : List sxV} {args : List Value} {μ : Nat} (hE : sx_e U W E M) (hv : sx_vs W xs args) (hm : sx_mu q W μ) (h : sx_mlt q c xs E = true) : sx_mv c args < μ := by
  unfold sx_mlt at h
  unfold sx_mv
  split at h
  · rename_i hc
    rw [hc, Nat.zero_mul, Nat.add_zero]
    have := hm.base
    simp only [decide_eq_true_eq] at h
    omega
  · split at h
    · rename_i x hx
      obtain ⟨v, v1, v2⟩ := sx_vs_get hv hx
      split at h
      · rename_i b hb
        obtain ⟨z, rfl, z1, z2⟩ := sx_bo hE hb v2
        rw [v1]
        dsimp only
        rw [Bool.or_eq_true] at h
        rcases h with h | h
        · simp only [decide_eq_true_eq] at h
          have h1 : (c.2.2.2.2.2.2.2.1 - z.toInt).toNat ≤ (c.2.2.2.2.2.2.2.1 - b.1).toNat := by omega
          have h2 := Nat.mul_le_mul_left c.2.2.2.2.2.1 h1
          have := hm.base
          omega
        · split at h
          · rename_i s d m hq
            simp only [Bool.and_eq_true, decide_eq_true_eq] at h
            obtain ⟨⟨⟨⟨h1, h2⟩, h3⟩, h4⟩, h5⟩ := h
            unfold sx_mu at hm
            rw [hq] at hm
            obtain ⟨y, y1, y2⟩ := hm
            obtain ⟨z', y', e1, e2, e3⟩ := v2
            cases e1
            rw [h2, e2] at y1
            have e0 : y = y' := (Option.some.inj y1).symm
            rw [y2, h1, h3, e0]
            have e4 : (c.2.2.2.2.2.2.2.1 - z.toInt).toNat = c.2.2.2.2.2.2.2.1 - z.toInt := Int.toNat_of_nonneg (by omega)
            have e5 : c.2.2.2.2.2.2.2.1 - y' ≤ ((c.2.2.2.2.2.2.2.1 - y').toNat : Int) := Int.self_le_toNat _
            have e6 : (c.2.2.2.2.2.1 : Int) * (c.2.2.2.2.2.2.2.1 - y') ≤ (c.2.2.2.2.2.1 : Int) * ((c.2.2.2.2.2.2.2.1 - y').toNat : Int) := Int.mul_le_mul_of_nonneg_left e5 (Int.natCast_nonneg _)
            have e7 : (c.2.2.2.2.2.1 : Int) * (c.2.2.2.2.2.2.2.1 - z.toInt) = (c.2.2.2.2.2.1 : Int) * (c.2.2.2.2.2.2.2.1 - y') - (c.2.2.2.2.2.1 : Int) * d := by
              rw [e3, ← Int.mul_sub]
              congr 1
              omega
            have : ((c.2.2.2.2.1 + c.2.2.2.2.2.1 * (c.2.2.2.2.2.2.2.1 - z.toInt).toNat : Nat) : Int) < ((q.2.1 + c.2.2.2.2.2.1 * (c.2.2.2.2.2.2.2.1 - y').toNat : Nat) : Int) := by
              push_cast
              rw [e4, e7]
              omega
            exact_mod_cast this
          · cases h
      · cases h
    · cases h
theorem sx_kpo {md : List (Nat × Nat)} (hE : sx_e U W E M) (hfr : sx_fr U md M M') : sx_e U W (sx_kp md E) M' := by
  refine ⟨hE.1, hE.2.1, hE.2.2.1, hE.2.2.2.1, hE.2.2.2.2.1, hE.2.2.2.2.2.1, ?_, hE.2.2.2.2.2.2.2⟩
  intro s k x hx
  obtain ⟨h1, h2⟩ := List.mem_filter.mp hx
  obtain ⟨a, ci, a1, a2, a3, a4⟩ := hE.2.2.2.2.2.2.1 s k x h1
  refine ⟨a, ci, a1, a2, a3, ?_⟩
  dsimp only at h2
  split at h2
  · rename_i b hb
    obtain ⟨o, o1, o2⟩ := hE.2.2.2.2.2.1 _ _ hb
    rw [a1] at o1
    cases o1
    have o2 : sx_rc U b.1 a := o2
    simp only [Bool.and_eq_true, Bool.not_eq_true'] at h2
    have hs : sx_same M M' a k := hfr a k (Or.inr (by
      rw [o2.2.2]
      constructor
      · intro hm
        have := List.elem_iff.mpr hm
        rw [this] at h2
        cases h2.2
      · intro hm
        have := List.elem_iff.mpr hm
        rw [this] at h2
        cases h2.1))
    rw [sx_rd_same hs]
    exact a4
  · cases h2
theorem sx_fr_sub {md md' : List (Nat × Nat)} (h0 : sx_fr U md M0 M) (h1 : sx_fr U md' M M') (hs : ∀ p ∈ md', p ∈ md) : sx_fr U md M0 M' := by
  intro a k h
  have g0 := h0 a k h
  have g1 := h1 a k (h.imp id (fun z => ⟨fun w => z.1 (hs _ w), fun w => z.2 (hs _ w)⟩))
  exact ⟨g1.1.trans g0.1, g1.2.1.trans g0.2.1, g1.2.2.trans g0.2.2⟩
theorem sx_pusho {post : Option sxF} {v : Option Value} {r : List sxV} {rc : List Value} (hE : sx_e U W E M) (hr : sx_vs W r rc) (hp : sx_pok U post v) : ∃ W', sx_le W W' ∧ sx_e U W' (sx_push post r E).2 M ∧ sx_vs W' (sx_push post r E).1 (v.toList ++ rc) := by
  unfold sx_pok at hp
  split at hp
  · exact ⟨W, sx_le_rfl W, hE, hr⟩
  · obtain ⟨W', w1, w2, w3⟩ := sx_newf hE hp
    exact ⟨W', w1, w2, w3, hr.mono w1⟩
  · exact hp.elim
theorem sx_ovo {o : Option sxV} {v : Option Value} {r : List sxV} {rc : List Value} (h : sx_ov W o v) (hr : sx_vs W r rc) : sx_vs W (o.toList ++ r) (v.toList ++ rc) := by
  unfold sx_ov at h
  split at h
  · exact hr
  · exact ⟨h, hr⟩
  · exact h.elim
theorem sx_room {d : Nat × Nat} {μ μ' ml : Nat} (h : sx_rm T d μ) (hl : μ' < μ) (hm : ml + 19 ≤ T.2.2.2) : 1 ≤ d.1 ∧ ml + 19 ≤ d.2 ∧ sx_rm T (d.1 - 1, d.2 - (ml + 19)) μ' := by
  obtain ⟨h1, h2⟩ := h
  have h3 : (μ' + 1) * T.2.2.2 ≤ μ * T.2.2.2 := Nat.mul_le_mul_right _ hl
  rw [Nat.add_mul, Nat.one_mul] at h3
  refine ⟨by omega, by omega, ?_, ?_⟩
  · dsimp only; omega
  · dsimp only; omega
set_option maxHeartbeats 1000000 in
theorem sx_goo (hinl : ∀ p ∈ T.1, 1 ≤ p.2) : ∀ (n : Nat) (q : sxQ) (j pc : Nat) (sl : List (Option sxV)) (sst : List sxV) (E : sxE) (outs : sxO), sx_go T U n q j pc sl sst E = some outs → ∀ (W : sxW) (ls : rf_L) (st : List Value) (M M0 : rf_M) (d : Nat × Nat) (Q : Option Value → rf_H → Prop) (μ : Nat), sx_ls W sl ls → sx_vs W sst st → sx_e U W E M → sx_in U M → sx_fr U q.1 M0 M → sx_mu q W μ → 1 ≤ μ → sx_rm T d μ → (∀ c ∈ T.2.1 ++ T.2.2.1, ∀ args, sx_mv c args < μ → sx_cok T U c args) →
    (∀ pc' t, sx_tr q pc' = some t → ∀ (W' : sxW) (sl' : List (Option sxV)) (sst' : List sxV) (E' : sxE) (ls' : rf_L) (st' : List Value) (M' : rf_M), sx_le W W' → sx_ls W' sl' ls' → sx_vs W' sst' st' → sx_e U W' E' M' → sx_in U M' → sx_fr U q.1 M0 M' → sx_atk t.1 t.2.1 t.2.2 sl' sst' E' = true → gx U.1.1 d j pc' ls' st' (M', U.1.2.2.2.1) Q) →
    (∀ o ∈ outs, ∀ (W' : sxW) (v : Option Value) (M' : rf_M), sx_le W W' → sx_e U W' o.2 M' → sx_in U M' → sx_fr U q.1 M0 M' → sx_ov W' o.1 v → Q v (M', U.1.2.2.2.1)) →
    gx U.1.1 d j pc ls st (M, U.1.2.2.2.1) Q := by
  intro n
  induction n with
  | zero =>
    intro q j pc sl sst E outs h
    unfold sx_go at h
    cases h
  | succ n ih =>
    intro q j pc sl sst E outs h W ls st M M0 d Q μ hl hs hE hin hfr hmu hmu1 hrm hch hcut hout
    have nx : ∀ (pc' : Nat) (sl' : List (Option sxV)) (sst' : List sxV) (E' : sxE) (outs' : sxO), sx_nxt q (sx_go T U n q j) pc' sl' sst' E' = some outs' → (∀ o ∈ outs', o ∈ outs) → ∀ (W' : sxW) (ls' : rf_L) (st' : List Value) (M' : rf_M), sx_le W W' → sx_ls W' sl' ls' → sx_vs W' sst' st' → sx_e U W' E' M' → sx_in U M' → sx_fr U q.1 M0 M' → gx U.1.1 d j pc' ls' st' (M', U.1.2.2.2.1) Q := by
      intro pc' sl' sst' E' outs' h' hsub W' ls' st' M' hw hl' hs' hE' hin' hfr'
      unfold sx_nxt at h'
      split at h'
      · rename_i t ht
        split at h'
        · rename_i ha
          exact hcut pc' t ht W' sl' sst' E' ls' st' M' hw hl' hs' hE' hin' hfr' ha
        · cases h'
      · exact ih q j pc' sl' sst' E' outs' h' W' ls' st' M' M0 d Q μ hl' hs' hE' hin' hfr' (hmu.mono hw) hmu1 hrm hch
          (fun pc'' t ht W'' sl'' sst'' E'' ls'' st'' M'' hw'' => hcut pc'' t ht W'' sl'' sst'' E'' ls'' st'' M'' (hw.trans hw''))
          (fun o ho W'' v M'' hw'' => hout o (hsub o ho) W'' v M'' (hw.trans hw''))
    unfold sx_go at h
    split at h
    · cases h
    · rename_i I hI
      obtain ⟨J, aux⟩ := I
      dsimp only at h
      split at h
      · rename_i hk
        obtain ⟨r, h1, h2⟩ := Option.bind_eq_some_iff.mp h
        obtain ⟨st', W', g1, g2, g3, g4⟩ := sx_aro hE h1 hs
        exact g0 hI hk g1 (nx _ _ _ _ _ h2 (fun _ z => z) W' ls st' M g2 (hl.mono g2) g4 g3 hin hfr)
      · rename_i hk
        obtain ⟨r, h1, h2⟩ := Option.bind_eq_some_iff.mp h
        obtain ⟨st', W', g1', g2, g3, g4⟩ := sx_loo (aux := aux) hl hE hs h1
        exact g1 hI hk rfl g1' (nx _ _ _ _ _ h2 (fun _ z => z) W' ls st' M g2 (hl.mono g2) g4 g3 hin hfr)
      · rename_i hk
        obtain ⟨r, h1, h2⟩ := Option.bind_eq_some_iff.mp h
        obtain ⟨ls', st', W', g1', g2', g3, g4, g5⟩ := sx_soo hl hE hs h1
        exact g2 hI hk rfl g1' (nx _ _ _ _ _ h2 (fun _ z => z) W' ls' st' M g2' g4 g5 g3 hin hfr)
      · rename_i hk
        obtain ⟨r, h1, h2⟩ := Option.bind_eq_some_iff.mp h
        obtain ⟨pc', st', g1', o, o1, o2, o3, o4⟩ := sx_bro hE hs h1
        obtain ⟨outs', k1, k2⟩ := sx_all_mem h2 o o1
        refine g3 hI hk g1' ?_
        rw [← o2]
        exact nx _ _ _ _ _ k1 k2 W ls st' M (sx_le_rfl W) hl o4 o3 hin hfr
      · rename_i hk
        obtain ⟨r, h1, h2⟩ := Option.bind_eq_some_iff.mp h
        obtain ⟨st', M', W', g1', g2', g3, g4', g5, g6⟩ := sx_hpo hE hin hfr hs h1
        exact g4 hI hk rfl g1' (nx _ _ _ _ _ h2 (fun _ z => z) W' ls st' M' g2' (hl.mono g2') g6 g3 g4' g5)
      · rename_i hk
        split at h
        · rename_i hkd
          obtain ⟨r, h1, h2⟩ := Option.bind_eq_some_iff.mp h
          obtain ⟨st', M', W', g1', g2', g3, g4', g5, g6⟩ := sx_bio (d := d) (by have := hrm.1; omega) (by have := hrm.2; omega) hE hin hfr hs h1
          refine gx_step hI (pc' := pc + 3) (ls' := ls) (st' := st') (h' := (M', U.1.2.2.2.1)) ?_ (nx _ _ _ _ _ h2 (fun _ z => z) W' ls st' M' g2' (hl.mono g2') g6 g3 g4' g5)
          unfold rf_ex
          simp only [hk]
          rw [if_pos hkd, g1']
          rfl
        · rename_i hkd
          obtain ⟨a, h1, h2⟩ := Option.bind_eq_some_iff.mp h
          obtain ⟨as, r, g1', g2', g3⟩ := sx_cao hE hs h1
          have hex : rf_ex U.1.1 d j pc (J, aux) ls st (M, U.1.2.2.2.1) = some (.inr (.inl (a.1, as, r))) := by
            unfold rf_ex
            simp only [hk]
            rw [if_neg hkd, g1']
            rfl
          split at h2
          · rename_i hsz
            split at h2
            · rename_i p hp
              split at h2
              · rename_i hlt
                obtain ⟨outs1, k1, k2⟩ := Option.bind_eq_some_iff.mp h2
                have hb := hmu.base
                obtain ⟨r1, r2, r3⟩ := sx_room (μ' := p.2) hrm (by omega) hsz.2
                refine gx_call hI hex ⟨r1, r2, by rw [sx_argl g2']; exact hsz.1⟩ ?_
                refine ih (q.1, p.2, none, none) a.1 0 _ [] E outs1 k1 W (lv_args 0 as) [] M M0 _ _ p.2 (sx_frmo g2') trivial hE hin hfr rfl (hinl p (List.mem_of_find?_eq_some hp)) r3 (fun c hc args hlt' => hch c hc args (by omega)) (fun pc' t ht => by cases ht) ?_
                intro o ho W' v M' hw hE' hin' hfr' hov
                obtain ⟨outs', m1, m2⟩ := sx_all_mem k2 o ho
                exact nx _ _ _ _ _ m1 m2 W' ls (v.toList ++ r) M' hw (hl.mono hw) (sx_ovo hov (g3.mono hw)) hE' hin' hfr'
              · cases h2
            · obtain ⟨c, k1, k2⟩ := Option.bind_eq_some_iff.mp h2
              have hc1 := List.mem_of_find?_eq_some k1
              have hc2 := List.find?_some k1
              simp only [Bool.and_eq_true, decide_eq_true_eq, List.all_eq_true] at hc2
              obtain ⟨⟨⟨c1, c2⟩, c3⟩, c4⟩ := hc2
              have hlt := sx_mlto hE g2' hmu c3
              obtain ⟨r1, r2, r3⟩ := sx_room hrm hlt hsz.2
              refine gx_call hI hex ⟨r1, r2, by rw [sx_argl g2']; exact hsz.1⟩ ?_
              have hc := hch c hc1 as hlt M _ r3 hin (sx_pfito hE c2 g2')
              rw [c1] at hc
              refine gx_mono hc ?_
              rintro v h' ⟨M', rfl, hin', hfr', hp⟩
              obtain ⟨W', w1, w2, w3⟩ := sx_pusho (sx_kpo hE hfr') g3 hp
              exact nx _ _ _ _ _ k2 (fun _ z => z) W' ls (v.toList ++ r) M' w1 (hl.mono w1) w3 w2 hin' (sx_fr_sub hfr hfr' (fun p hp => List.elem_iff.mp (c4 p hp)))
          · cases h2
      · rename_i hk
        obtain ⟨v, h1, h2⟩ := Option.bind_eq_some_iff.mp h
        cases h2
        obtain ⟨w, g1', g2'⟩ := sx_rto hE hs h1
        refine gx_ret hI (v := w) ?_ (hout _ (List.mem_singleton_self _) W w M (sx_le_rfl W) hE hin hfr g2')
        unfold rf_ex
        simp only [hk]
        rw [g1']
        rfl
      · rename_i hk
        obtain ⟨r, h1, h2⟩ := Option.bind_eq_some_iff.mp h
        obtain ⟨st', W', g1', g2', g3, g4'⟩ := sx_poo hE hs h1
        exact g7 hI hk rfl g1' (nx _ _ _ _ _ h2 (fun _ z => z) W' ls st' M g2' (hl.mono g2') g4' g3 hin hfr)
      · cases h
end SXB
