section SX7
variable {U : sxU} {W : sxW} {E : sxE} {M M' M0 : rf_M} {sst : List sxV} {st : List Value} {md : List (Nat × Nat)}
def sx_fits (U : sxU) (f : sxF) (vv : Value) : Prop := match f with
  | (.inl (lo, hi)) => ∃ z : Int32, vv = .int z ∧ lo ≤ z.toInt ∧ z.toInt ≤ hi
  | (.inr none) => ∃ z, vv = .long z
  | (.inr (some (g, nul))) => ∃ o, vv = va_rf o ∧ (match o with | none => nul = true | some b => sx_rc U g b)
theorem sx_woko (hE : sx_e U W E M) {v : sxV} {vv : Value} {f : sxF} (hv : sx_v W v vv) (h : sx_wok E v f = true) : sx_fits U f vv := by
  rcases f with ⟨lo, hi⟩ | (_ | ⟨g, nul⟩)
  · unfold sx_wok at h
    dsimp only at h
    split at h
    · rename_i b hb
      simp only [Bool.and_eq_true, decide_eq_true_eq] at h
      obtain ⟨z, rfl, z1, z2⟩ := sx_bo hE hb hv
      exact ⟨z, rfl, by omega, by omega⟩
    · cases h
  · exact sx_vL h hv
  · unfold sx_wok at h
    dsimp only at h
    split at h
    · rename_i s
      split at h
      · rename_i b hb
        simp only [Bool.and_eq_true, decide_eq_true_eq, Bool.or_eq_true, Bool.not_eq_true'] at h
        obtain ⟨o, rfl, ho⟩ := hv
        obtain ⟨o', g1, g2⟩ := hE.2.2.2.2.2.1 _ _ hb
        rw [ho] at g1
        cases g1
        refine ⟨o, rfl, ?_⟩
        cases o with
        | none =>
          have g2 : b.2 = true := g2
          rw [g2] at h
          rcases h.2 with h | h
          · cases h
          · exact h
        | some c =>
          have g2 : sx_rc U b.1 c := g2
          rw [h.1] at g2
          exact g2
      · cases h
    · cases hv
      exact ⟨none, rfl, h⟩
    · cases h
theorem sx_wro (hE : sx_e U W E M) {v : sxV} {vv : Value} {f : sxF} {ty : FieldType} (a k : Nat) (hv : sx_v W v vv) (h1 : sx_tyok ty f = true) (h2 : sx_wty E v ty = true) (h3 : sx_wok E v f = true) : ∃ M', rf_wr M ty a k vv = some M' ∧ sx_upd M M' a k ∧ sx_v W v (sx_rd v M' a k) ∧ sx_f U M' a k f := by
  have hf := sx_woko hE hv h3
  have kI : ∀ z : Int32, vv = .int z → ∀ M', M' = rf_wi M a k z → sx_tyok .int f = true → sx_isI v = true → sx_upd M M' a k ∧ sx_v W v (sx_rd v M' a k) ∧ sx_f U M' a k f := by
    intro z hz M' hM ht hI
    subst hM hz
    have e : (rf_wi M a k z).1 a k = z := rf_up2s _ _ _ _
    refine ⟨sx_upd_i M a k z, ?_, ?_⟩
    · have e2 : sx_rd v (rf_wi M a k z) a k = .int z := by
        rcases v with ⟨_, _⟩ | _ | _ | (_ | _) <;> first | (show Value.int ((rf_wi M a k z).1 a k) = _; rw [e]) | cases hI
      rw [e2]; exact hv
    · rcases f with ⟨lo, hi⟩ | (_ | ⟨g, nul⟩)
      · obtain ⟨z', g1, g2, g3⟩ := hf
        cases g1
        show lo ≤ ((rf_wi M a k z).1 a k).toInt ∧ ((rf_wi M a k z).1 a k).toInt ≤ hi
        rw [e]; exact ⟨g2, g3⟩
      · trivial
      · cases ht
  have kR : ∀ o : Option Nat, vv = va_rf o → ∀ M', M' = rf_wq M a k o → sx_isR v = true → (∀ lo hi, f ≠ (.inl (lo, hi))) → sx_upd M M' a k ∧ sx_v W v (sx_rd v M' a k) ∧ sx_f U M' a k f := by
    intro z hz M' hM hI hni
    subst hM hz
    have e : (rf_wq M a k z).2.2 a k = z := rf_up2s _ _ _ _
    refine ⟨sx_upd_q M a k z, ?_, ?_⟩
    · have e2 : sx_rd v (rf_wq M a k z) a k = va_rf z := by
        rcases v with ⟨_, _⟩ | _ | _ | (_ | _) <;> first | (show va_rf ((rf_wq M a k z).2.2 a k) = _; rw [e]) | cases hI
      rw [e2]; exact hv
    · rcases f with ⟨lo, hi⟩ | (_ | ⟨g, nul⟩)
      · exact absurd rfl (hni lo hi)
      · trivial
      · obtain ⟨o, g1, g2⟩ := hf
        have : z = o := by cases z <;> cases o <;> first | rfl | (cases g1 <;> rfl)
        subst this
        show match (rf_wq M a k z).2.2 a k with | none => nul = true | some b => sx_rc U g b
        rw [e]; exact g2
  cases ty with
  | int =>
    obtain ⟨z, hz⟩ := sx_vI h2 hv
    obtain ⟨r1, r2, r3⟩ := kI z hz _ rfl (by rcases f with ⟨_, _⟩ | (_ | ⟨_, _⟩) <;> first | rfl | cases h1) h2
    exact ⟨rf_wi M a k z, by rw [hz]; rfl, r1, r2, r3⟩
  | boolean =>
    have h2 : (match sx_b E v with | some b => decide (0 ≤ b.1) && decide (b.2 ≤ 1) | none => false) = true := h2
    split at h2
    · rename_i b hb
      simp only [Bool.and_eq_true, decide_eq_true_eq] at h2
      obtain ⟨z, hz, z1, z2⟩ := sx_bo hE hb hv
      have hI : sx_isI v = true := by rcases v with ⟨_, _⟩ | _ | _ | (_ | _) <;> first | rfl | cases hb
      have hz01 : z = 0 ∨ z = 1 := by
        have : z.toInt = 0 ∨ z.toInt = 1 := by omega
        rcases this with h | h
        · exact Or.inl (Int32.toInt_inj.mp (by rw [h]; rfl))
        · exact Or.inr (Int32.toInt_inj.mp (by rw [h]; rfl))
      obtain ⟨r1, r2, r3⟩ := kI z hz _ rfl (by rcases f with ⟨_, _⟩ | (_ | ⟨_, _⟩) <;> first | rfl | cases h1) hI
      refine ⟨rf_wi M a k z, ?_, r1, r2, r3⟩
      rw [hz]
      show (if narrow .boolean (.int z) = .int z ∧ fits .boolean (.int z) = true then some (rf_wi M a k z) else none) = _
      rw [if_pos]
      rcases hz01 with rfl | rfl
      · exact ⟨by decide +kernel, by decide +kernel⟩
      · exact ⟨by decide +kernel, by decide +kernel⟩
    · cases h2
  | long =>
    obtain ⟨z, hz⟩ := sx_vL h2 hv
    subst hz
    have e : (rf_wl M a k z).2.1 a k = z := rf_up2s _ _ _ _
    refine ⟨rf_wl M a k z, rfl, sx_upd_l M a k z, ?_, ?_⟩
    · have e2 : sx_rd v (rf_wl M a k z) a k = .long z := by
        rcases v with ⟨_, _⟩ | _ | _ | (_ | _) <;> first | (show Value.long ((rf_wl M a k z).2.1 a k) = _; rw [e]) | cases h2
      rw [e2]; exact hv
    · rcases f with ⟨_, _⟩ | (_ | ⟨_, _⟩) <;> first | trivial | cases h1
  | object C =>
    obtain ⟨o, ho⟩ := sx_vR h2 hv
    obtain ⟨r1, r2, r3⟩ := kR o ho _ rfl h2 (fun lo hi e => by rw [e] at h1; cases h1)
    exact ⟨rf_wq M a k o, by rw [ho]; cases o <;> rfl, r1, r2, r3⟩
  | array t =>
    obtain ⟨o, ho⟩ := sx_vR h2 hv
    obtain ⟨r1, r2, r3⟩ := kR o ho _ rfl h2 (fun lo hi e => by rw [e] at h1; cases h1)
    exact ⟨rf_wq M a k o, by rw [ho]; cases o <;> rfl, r1, r2, r3⟩
  | byte => cases h2
  | char => cases h2
  | short => cases h2
  | float => cases h2
  | double => cases h2
theorem sx_gfo {aux : List (Int × Nat)} {q : List sxV × sxE} {i : Nat} (hE : sx_e U W E M) (hin : sx_in U M) (hs : sx_vs W sst st) (h : sx_gf U aux sst E = some q) : ∃ st' W', rf_hp U.1.1 (.getfield i) aux st (M, U.1.2.2.2.1) = some (st', (M, U.1.2.2.2.1)) ∧ sx_le W W' ∧ sx_e U W' q.2 M ∧ sx_vs W' q.1 st' := by
  unfold sx_gf at h
  split at h
  · obtain ⟨v, r, rfl, h1, hs1⟩ := sx_cons hs
    split at h
    · rename_i s g ci fs hob
      obtain ⟨a, rfl, a1, a2, a3, a4⟩ := sx_obo hE hob h1
      dsimp only at a1 a2 a3 a4
      split at h
      · rename_i k hk
        have step : ∀ vv, rf_rd M (U.1.1.2.2.1 (ci : Int) k) a k = vv → rf_hp U.1.1 (.getfield i) aux (.ref a :: r) (M, U.1.2.2.2.1) = some (vv :: r, (M, U.1.2.2.2.1)) := by
          intro vv hvv
          show (match rf_ob (M, U.1.2.2.2.1) a with
            | some ci => match rf_lk aux (rf_ky U.1.1.2.2.2.2 a ci) with
              | some k => some (rf_rd M (U.1.1.2.2.1 (rf_ky U.1.1.2.2.2.2 a ci) k) a k :: r, (M, U.1.2.2.2.1))
              | none => none
            | none => none) = _
          rw [a3.ob]
          dsimp only
          rw [a3.ky, hk]
          dsimp only
          rw [hvv]
        split at h
        · rename_i f hf
          have hff : sx_f U M a k f := hin.1 a k f a3.1 a3.2.2.1 (by unfold sx_fa; rw [a4]; exact hf)
          split at h
          · rename_i ht
            split at h
            · rename_i y hy
              split at h
              · rename_i hkd
                cases h
                obtain ⟨qq, hq1, rfl⟩ := Option.map_eq_some_iff.mp hy
                have hm := List.mem_of_find?_eq_some hq1
                have hp := List.find?_some hq1
                simp only [Bool.and_eq_true, beq_iff_eq] at hp
                obtain ⟨⟨s', k'⟩, y⟩ := qq
                obtain ⟨rfl, rfl⟩ := hp
                obtain ⟨b, ci', b1, b2, b3, b4⟩ := hE.2.2.2.2.2.2.1 _ _ _ hm
                rw [a1] at b1
                cases b1
                refine ⟨_, W, step _ ?_, sx_le_rfl W, hE, b4, hs1⟩
                rcases f with ⟨lo, hi⟩ | (_ | ⟨g, nul⟩)
                · have e : rf_rd M (U.1.1.2.2.1 (ci : Int) k') a k' = .int (M.1 a k') := by
                    revert ht; cases U.1.1.2.2.1 (ci : Int) k' <;> intro ht <;> first | rfl | cases ht
                  rw [e]; rcases y with ⟨_, _⟩ | _ | _ | (_ | _) <;> first | rfl | cases hkd
                · have e : rf_rd M (U.1.1.2.2.1 (ci : Int) k') a k' = .long (M.2.1 a k') := by
                    revert ht; cases U.1.1.2.2.1 (ci : Int) k' <;> intro ht <;> first | rfl | cases ht
                  rw [e]; rcases y with ⟨_, _⟩ | _ | _ | (_ | _) <;> first | rfl | cases hkd
                · have e : rf_rd M (U.1.1.2.2.1 (ci : Int) k') a k' = va_rf (M.2.2 a k') := by
                    revert ht; cases U.1.1.2.2.1 (ci : Int) k' <;> intro ht <;> first | rfl | cases ht
                  rw [e]; rcases y with ⟨_, _⟩ | _ | _ | (_ | _) <;> first | rfl | cases hkd
              · cases h
            · cases h
              obtain ⟨W', w1, w2, w3, w4⟩ := sx_newo hE hff ht
              refine ⟨_, W', step _ rfl, w1, ⟨w2.1, w2.2.1, w2.2.2.1, w2.2.2.2.1, w2.2.2.2.2.1, w2.2.2.2.2.2.1, ?_, w2.2.2.2.2.2.2.2⟩, w3, hs1.mono w1⟩
              intro s' k' x hx
              rcases List.mem_cons.mp hx with e | e
              · cases e
                exact ⟨a, ci, w1.2.2 _ _ a1, a3.1, a3.2.2.2, by rw [w4]; exact w3⟩
              · obtain ⟨b, ci', b1, b2, b3, b4⟩ := hE.2.2.2.2.2.2.1 _ _ _ e
                exact ⟨b, ci', w1.2.2 _ _ b1, b2, b3, b4.mono w1⟩
          · cases h
        · cases h
      · cases h
    · cases h
  · cases h
theorem sx_pfo {aux : List (Int × Nat)} {q : List sxV × sxE} {i : Nat} (hE : sx_e U W E M) (hin : sx_in U M) (hfr : sx_fr U md M0 M) (hs : sx_vs W sst st) (h : sx_pf U md aux sst E = some q) : ∃ st' M', rf_hp U.1.1 (.putfield i) aux st (M, U.1.2.2.2.1) = some (st', (M', U.1.2.2.2.1)) ∧ sx_e U W q.2 M' ∧ sx_in U M' ∧ sx_fr U md M0 M' ∧ sx_vs W q.1 st' := by
  unfold sx_pf at h
  split at h
  · obtain ⟨vv, r1, rfl, hv, hs1⟩ := sx_cons hs
    obtain ⟨v, r, rfl, h1, hs2⟩ := sx_cons hs1
    split at h
    · rename_i s g ci fs hob
      obtain ⟨a, rfl, a1, a2, a3, a4⟩ := sx_obo hE hob h1
      dsimp only at a1 a2 a3 a4
      split at h
      · rename_i k hk
        split at h
        · rename_i f hf
          split at h
          · rename_i hc
            cases h
            obtain ⟨M', m1, m2, m3, m4⟩ := sx_wro hE a k hv hc.1 hc.2.1 hc.2.2.1
            refine ⟨r, M', ?_, sx_e_o hE m2 a1 a3.1 a3.2.2.2 m3, sx_in_w hin a3.1 m2 (fun f' hf' => ?_), sx_fr_w hfr m2 a3.1 (Or.inr ?_), hs2⟩
            · show (if a < U.1.1.2.2.2.2 then none else match rf_ob (M, U.1.2.2.2.1) a with
                | some ci => match rf_lk aux (ci : Int) with
                  | some k => match rf_wr M (U.1.1.2.2.1 (ci : Int) k) a k vv with
                    | some M => some (r, (M, U.1.2.2.2.1))
                    | none => none
                  | none => none
                | none => none) = _
              rw [if_neg (Nat.not_lt.mpr a3.1), a3.ob]
              dsimp only
              rw [hk]
              dsimp only
              rw [m1]
            · unfold sx_fa at hf'
              rw [a4] at hf'
              dsimp only at hf'
              rw [hf] at hf'
              cases hf'
              exact m4
            · rw [a2.2.2]
              exact List.elem_iff.mp hc.2.2.2
          · cases h
        · cases h
      · cases h
    · cases h
  · cases h
end SX7
