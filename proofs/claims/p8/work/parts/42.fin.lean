/-! all contracts hold -/
section SXC
variable {T : sxT} {U : sxU} {W W' : sxW} {E : sxE} {M M' M0 : rf_M}
theorem sx_nv_mono {sl : List (Option sxV)} {ls : rf_L} {m : sxM} {a : sxN} (hl : sx_ls W sl ls) (hr : sx_res sl m = some a) (hw : sx_le W W') : sx_nv W' a = sx_nv W a := by
  unfold sx_res at hr
  split at hr
  · cases hr; rfl
  · split at hr
    · rename_i s c hj
      split at hr
      · cases hr
        obtain ⟨v, v1, z, y, -, v2, -⟩ := hl _ _ hj
        unfold sx_nv
        dsimp only
        rw [v2, hw.1 _ _ v2]
      · cases hr
    · cases hr
  · split at hr
    · rename_i s c hj
      split at hr
      · cases hr
        obtain ⟨v, v1, z, y, -, v2, -⟩ := hl _ _ hj
        unfold sx_nv
        dsimp only
        rw [v2, hw.1 _ _ v2]
      · cases hr
    · cases hr
theorem sx_deco {sl slK : List (Option sxV)} {ls : rf_L} {K : sxK} {a b e a' b' e' : sxN} (hE : sx_e U W E M) (hl : sx_ls W sl ls) (hl' : sx_ls W' slK ls) (h : sx_dec E sl (some (a, b, e)) K = true) (h1 : sx_res slK K.2.2.1 = some a') (h2 : sx_res slK K.2.2.2.1 = some b') (h3 : sx_res slK K.2.2.2.2 = some e') : sx_lt3 (sx_nv W' a', sx_nv W' b', sx_nv W' e') (sx_nv W a, sx_nv W b, sx_nv W e) := by
  unfold sx_dec at h
  simp only [Bool.or_eq_true, Bool.and_eq_true] at h
  unfold sx_lt3
  dsimp only
  rcases h with h | ⟨h, h⟩
  · exact Or.inl (by simpa using sx_cmpo hE hl hl' h h1)
  · rename_i hle
    have q1 : sx_nv W' a' ≤ sx_nv W a := by simpa using sx_cmpo hE hl hl' hle h1
    rcases h with h | ⟨hle2, h⟩
    · exact Or.inr ⟨q1, Or.inl (by simpa using sx_cmpo hE hl hl' h h2)⟩
    · exact Or.inr ⟨q1, Or.inr ⟨by simpa using sx_cmpo hE hl hl' hle2 h2, by simpa using sx_cmpo hE hl hl' h h3⟩⟩
theorem sx_posto {post : Option sxF} {o : Option sxV × sxE} {v : Option Value} (hE : sx_e U W o.2 M) (h : sx_post post o = true) (hv : sx_ov W o.1 v) : sx_pok U post v := by
  unfold sx_post at h
  split at h
  · rename_i e
    rw [e] at hv
    cases v with
    | none => trivial
    | some w => exact hv.elim
  · rename_i f x e
    rw [e] at hv
    cases v with
    | none => exact hv.elim
    | some w => exact sx_woko hE hv h
  · cases h
theorem sx_muo {c : sxC} {args : List Value} {src : Option (sxN × sxN × sxN)} (hv : sx_vs W (sx_pe c.2.1 sx_E0).1 args) (hc : c.2.2.2.2.2.1 = 0 ∨ (sx_mcq c).isSome = true) : sx_mu (c.2.2.2.1, c.2.2.2.2.1, sx_mcq c, some (c, src)) W (sx_mv c args) := by
  unfold sx_mu
  dsimp only
  unfold sx_mv
  cases hq : sx_mcq c with
  | none =>
    rw [hq] at hc
    rcases hc with hc | hc
    · dsimp only
      rw [hc, Nat.zero_mul, Nat.add_zero]
    · cases hc
  | some m =>
    dsimp only
    unfold sx_mcq at hq
    split at hq
    · rename_i s d hp
      split at hq
      · rename_i hd
        cases hq
        obtain ⟨v, v1, z, y, rfl, v2, v3⟩ := sx_vs_get hv hp
        refine ⟨y, v2, ?_⟩
        rw [v1]
        dsimp only
        rw [v3, hd, Int.add_zero]
      · cases hq
    · cases hq
set_option maxHeartbeats 1000000 in
theorem sx_main {fuel : Nat} (hext : ∀ c ∈ T.2.2.1, ∀ args, sx_cok T U c args) (hck : sx_ck T U fuel = true) : ∀ c ∈ T.2.1, ∀ args, sx_cok T U c args := by
  unfold sx_ck at hck
  simp only [Bool.and_eq_true, List.all_eq_true, decide_eq_true_eq] at hck
  obtain ⟨hct, hinl⟩ := hck
  have key : ∀ μ, ∀ c ∈ T.2.1, ∀ args, sx_mv c args = μ → sx_cok T U c args := by
    intro μ
    induction μ using Nat.strongRecOn with
    | _ μ ihμ =>
      intro c hc args hmv M d hrm hin hfit
      have hk := hct c hc
      unfold sx_ckc at hk
      simp only [Bool.and_eq_true, List.all_eq_true, decide_eq_true_eq, Bool.or_eq_true] at hk
      obtain ⟨⟨⟨hent, hcuts⟩, hbase⟩, hcoef⟩ := hk
      obtain ⟨W0, -, hE0, hps⟩ := sx_peo (sx_e0 (U := U) M) hfit
      have hkn : (sx_pe c.2.1 sx_E0).2.2.2.2.1 = [] := (sx_pe_kn c.2.1 sx_E0).1
      have hmu : ∀ (src : Option (sxN × sxN × sxN)) (W' : sxW), sx_le W0 W' → sx_mu (c.2.2.2.1, c.2.2.2.2.1, sx_mcq c, some (c, src)) W' (sx_mv c args) := fun src W' hw => (sx_muo hps hcoef).mono hw
      have hmu1 : 1 ≤ sx_mv c args := by unfold sx_mv; omega
      have hch : ∀ c' ∈ T.2.1 ++ T.2.2.1, ∀ args', sx_mv c' args' < sx_mv c args → sx_cok T U c' args' := fun c' hc' args' hlt => (List.mem_append.mp hc').elim (fun z => ihμ _ (by omega) c' z args' rfl) (fun z => hext c' z args')
      -- the end of a walk
      have hfin : ∀ (outs : sxO), outs.all (sx_post c.2.2.1) = true → ∀ o ∈ outs, ∀ (W' : sxW) (v : Option Value) (M' : rf_M), sx_e U W' o.2 M' → sx_in U M' → sx_fr U c.2.2.2.1 M M' → sx_ov W' o.1 v → ∃ M'', (M', U.1.2.2.2.1) = (M'', U.1.2.2.2.1) ∧ sx_in U M'' ∧ sx_fr U c.2.2.2.1 M M'' ∧ sx_pok U c.2.2.1 v := by
        intro outs hall o ho W' v M' hE' hin' hfr' hov
        exact ⟨M', rfl, hin', hfr', sx_posto hE' (List.all_eq_true.mp hall o ho) hov⟩
      -- a walk that comes to a cut
      have hat : ∀ (K : sxK) (W' : sxW) (sl' : List (Option sxV)) (sst' : List sxV) (E' : sxE) (ls' : rf_L) (st' : List Value) (M' : rf_M) (src : Option (sxN × sxN × sxN)), sx_le W0 W' → sx_ls W' sl' ls' → sx_vs W' sst' st' → sx_e U W' E' M' → sx_atk c src K sl' sst' E' = true → st' = [] ∧ sx_dec E' sl' src K = true ∧ ∃ W3, sx_le W0 W3 ∧ sx_e U W3 (sx_kl (sx_pe c.2.1 sx_E0).1 K.2.1 (sx_pe c.2.1 sx_E0).2).2 M' ∧ sx_ls W3 (sx_kl (sx_pe c.2.1 sx_E0).1 K.2.1 (sx_pe c.2.1 sx_E0).2).1 ls' := by
        intro K W' sl' sst' E' ls' st' M' src hw hl' hs' hE' ha
        unfold sx_atk at ha
        simp only [Bool.and_eq_true] at ha
        obtain ⟨⟨a1, a2⟩, a3⟩ := ha
        have hst : st' = [] := by
          cases sst' with
          | nil => exact sx_nil hs'
          | cons x xs => cases a1
        obtain ⟨W3, w1, w2, w3⟩ := sx_klo hps hw hE' hl' K.2.1 0 W0 _ (sx_le_rfl W0) (sx_e_mem hE0 hkn M') a2
        refine ⟨hst, a3, W3, w1, w2, fun j x hj => ?_⟩
        obtain ⟨v, v1, v2⟩ := w3 j x hj
        exact ⟨v, by rw [Nat.zero_add] at v1; exact v1, v2⟩
      have hcut : ∀ (m : Nat × Nat × Nat), ∀ K ∈ c.2.2.2.2.2.2.2.2, ∀ (a b e : sxN), sx_res (sx_kl (sx_pe c.2.1 sx_E0).1 K.2.1 (sx_pe c.2.1 sx_E0).2).1 K.2.2.1 = some a → sx_res (sx_kl (sx_pe c.2.1 sx_E0).1 K.2.1 (sx_pe c.2.1 sx_E0).2).1 K.2.2.2.1 = some b → sx_res (sx_kl (sx_pe c.2.1 sx_E0).1 K.2.1 (sx_pe c.2.1 sx_E0).2).1 K.2.2.2.2 = some e → ∀ (W' : sxW) (ls' : rf_L) (M' : rf_M), sx_le W0 W' → sx_e U W' (sx_kl (sx_pe c.2.1 sx_E0).1 K.2.1 (sx_pe c.2.1 sx_E0).2).2 M' → sx_ls W' (sx_kl (sx_pe c.2.1 sx_E0).1 K.2.1 (sx_pe c.2.1 sx_E0).2).1 ls' → sx_in U M' → sx_fr U c.2.2.2.1 M M' → (sx_nv W' a, sx_nv W' b, sx_nv W' e) = m → gx U.1.1 d c.1 K.1 ls' [] (M', U.1.2.2.2.1) (fun v h' => ∃ M', h' = (M', U.1.2.2.2.1) ∧ sx_in U M' ∧ sx_fr U c.2.2.2.1 M M' ∧ sx_pok U c.2.2.1 v) := by
        intro m
        induction m using sx_ind3 with
        | h m ihm =>
          intro K hK a b e ha hb he W' ls' M' hw hE' hl' hin' hfr' hm
          have hkk := hcuts K hK
          unfold sx_ckk at hkk
          rw [ha, hb, he] at hkk
          dsimp only at hkk
          unfold sx_ends at hkk
          split at hkk
          · rename_i outs ho
            refine sx_goo hinl _ _ _ _ _ _ _ _ ho W' ls' [] M' M d _ (sx_mv c args) hl' trivial hE' hin' hfr' (hmu _ W' hw) hmu1 hrm hch ?_ (fun o ho' W'' v M'' hw'' hE'' hin'' hfr'' hov => hfin outs hkk o ho' W'' v M'' hE'' hin'' hfr'' hov)
            intro pc' t ht W'' sl'' sst'' E'' ls'' st'' M'' hw'' hl'' hs'' hE'' hin'' hfr'' hat'
            unfold sx_tr at ht
            dsimp only at ht
            split at ht
            · rename_i K' hK'
              cases ht
              dsimp only at hat'
              have hmem := List.mem_of_find?_eq_some hK'
              have hpc : K'.1 = pc' := by simpa using List.find?_some hK'
              obtain ⟨rfl, hdec, W3, w1, w2, w3⟩ := hat K' W'' sl'' sst'' E'' ls'' st'' M'' _ (hw.trans hw'') hl'' hs'' hE'' hat'
              have hkk' := hcuts K' hmem
              unfold sx_ckk at hkk'
              split at hkk'
              · rename_i a' b' e' ha' hb' he'
                have hlt := sx_deco hE'' hl'' w3 hdec ha' hb' he'
                rw [sx_nv_mono hl' ha hw'', sx_nv_mono hl' hb hw'', sx_nv_mono hl' he hw'', hm] at hlt
                have := ihm _ hlt K' hmem a' b' e' ha' hb' he' W3 ls'' M'' w1 w2 w3 hin'' hfr'' rfl
                rw [hpc] at this
                exact this
              · cases hkk'
            · cases ht
          · cases hkk
      unfold sx_ends at hent
      split at hent
      · rename_i outs ho
        refine sx_goo hinl _ _ _ _ _ _ _ _ ho W0 (lv_args 0 args) [] M M d _ (sx_mv c args) (sx_frmo hps) trivial hE0 hin (fun _ _ _ => ⟨rfl, rfl, rfl⟩) (hmu _ W0 (sx_le_rfl W0)) hmu1 hrm hch ?_ (fun o ho' W'' v M'' hw'' hE'' hin'' hfr'' hov => hfin outs hent o ho' W'' v M'' hE'' hin'' hfr'' hov)
        intro pc' t ht W'' sl'' sst'' E'' ls'' st'' M'' hw'' hl'' hs'' hE'' hin'' hfr'' hat'
        unfold sx_tr at ht
        dsimp only at ht
        split at ht
        · rename_i K' hK'
          cases ht
          dsimp only at hat'
          have hmem := List.mem_of_find?_eq_some hK'
          have hpc : K'.1 = pc' := by simpa using List.find?_some hK'
          obtain ⟨rfl, -, W3, w1, w2, w3⟩ := hat K' W'' sl'' sst'' E'' ls'' st'' M'' _ hw'' hl'' hs'' hE'' hat'
          have hkk' := hcuts K' hmem
          unfold sx_ckk at hkk'
          split at hkk'
          · rename_i a' b' e' ha' hb' he'
            have := hcut _ K' hmem a' b' e' ha' hb' he' W3 ls'' M'' w1 w2 w3 hin'' hfr'' rfl
            rw [hpc] at this
            exact this
          · cases hkk'
        · cases ht
      · cases hent
  exact fun c hc args => key _ c hc args rfl
end SXC
