/-! the walk is sound: its pieces -/
section SXA
variable {U : sxU} {W : sxW} {E : sxE} {M M' M0 : rf_M} {sst : List sxV} {st : List Value} {md : List (Nat × Nat)}
theorem sx_vs_len : ∀ {sst : List sxV} {st : List Value}, sx_vs W sst st → st.length = sst.length
  | [], [], _ => rfl
  | _ :: _, _ :: _, h => by rw [List.length_cons, List.length_cons, sx_vs_len h.2]
  | [], _ :: _, h => h.elim
  | _ :: _, [], h => h.elim
theorem sx_vs_app : ∀ {xs : List sxV} {vs : List Value} {ys : List sxV} {ws : List Value}, sx_vs W xs vs → sx_vs W ys ws → sx_vs W (xs ++ ys) (vs ++ ws)
  | [], [], _, _, _, h => h
  | _ :: _, _ :: _, _, _, h, h2 => ⟨h.1, sx_vs_app h.2 h2⟩
  | [], _ :: _, _, _, h, _ => h.elim
  | _ :: _, [], _, _, h, _ => h.elim
theorem sx_vs_rev : ∀ {xs : List sxV} {vs : List Value}, sx_vs W xs vs → sx_vs W xs.reverse vs.reverse
  | [], [], _ => trivial
  | _ :: _, _ :: _, h => by
    rw [List.reverse_cons, List.reverse_cons]
    exact sx_vs_app (sx_vs_rev h.2) ⟨h.1, trivial⟩
  | [], _ :: _, h => h.elim
  | _ :: _, [], h => h.elim
theorem sx_vs_drop : ∀ (n : Nat) {xs : List sxV} {vs : List Value}, sx_vs W xs vs → sx_vs W (xs.drop n) (vs.drop n)
  | 0, _, _, h => h
  | _ + 1, [], [], _ => trivial
  | n + 1, _ :: _, _ :: _, h => sx_vs_drop n h.2
  | _ + 1, [], _ :: _, h => h.elim
  | _ + 1, _ :: _, [], h => h.elim
theorem sx_vs_take : ∀ (n : Nat) {xs : List sxV} {vs : List Value}, sx_vs W xs vs → sx_vs W (xs.take n) (vs.take n)
  | 0, _, _, _ => trivial
  | _ + 1, [], [], _ => trivial
  | n + 1, _ :: _, _ :: _, h => ⟨h.1, sx_vs_take n h.2⟩
  | _ + 1, [], _ :: _, h => h.elim
  | _ + 1, _ :: _, [], h => h.elim
theorem sx_cao {J : Instr} {aux : List (Int × Nat)} {a : Nat × List sxV × List sxV} (hE : sx_e U W E M) (hs : sx_vs W sst st) (h : sx_ca U J aux sst E = some a) : ∃ as r, rf_ca U.1.1 J aux st (M, U.1.2.2.2.1) = some (a.1, as, r) ∧ sx_vs W a.2.1 as ∧ sx_vs W a.2.2 r := by
  unfold sx_ca at h
  split at h
  · rename_i q tg
    split at h
    · split at h
      · rename_i x r hd
        have hdr := sx_vs_drop q.2 hs
        rw [hd] at hdr
        cases hst : st.drop q.2 with
        | nil => rw [hst] at hdr; exact hdr.elim
        | cons v r' =>
          rw [hst] at hdr
          obtain ⟨h1, h2⟩ := hdr
          split at h
          · rename_i s g ci fs hob
            obtain ⟨b, rfl, b1, b2, b3, b4⟩ := sx_obo hE hob h1
            dsimp only at b3
            split at h
            · rename_i j hj
              split at h
              · rename_i hc
                cases h
                refine ⟨.ref b :: (st.take q.2).reverse, r', ?_, ⟨h1, sx_vs_rev (sx_vs_take _ hs)⟩, h2⟩
                unfold rf_ca
                dsimp only
                rw [hst]
                dsimp only
                rw [b3.ob]
                dsimp only
                rw [b3.ky, hj]
                dsimp only
                rw [if_pos ⟨by rw [sx_vs_len hs]; exact hc.1, by rw [sx_ctso h2]; exact hc.2⟩]
              · cases h
            · cases h
          · cases h
      · cases h
    · split at h
      · rename_i z j
        split at h
        · rename_i hc
          cases h
          refine ⟨(st.take q.2).reverse, st.drop q.2, ?_, sx_vs_rev (sx_vs_take _ hs), sx_vs_drop _ hs⟩
          unfold rf_ca
          dsimp only
          rw [if_pos ⟨by rw [sx_vs_len hs]; exact hc.1, by rw [sx_ctso (sx_vs_drop _ hs)]; exact hc.2⟩]
        · cases h
      · cases h
    · cases h
  · cases h
theorem sx_argso : ∀ {xs : List sxV} {vs : List Value} (i : Nat), sx_vs W xs vs → ∀ j x, sx_ld (sx_args xs) j = some x → ∃ v, rf_ld (lv_args i vs) (i + j) = some v ∧ sx_v W x v
  | [], [], _, _, j, x, h => by
    unfold sx_ld sx_args at h
    simp at h
  | y :: xs, v :: vs, i, hv, j, x, h => by
    have hc := sx_cto hv.1
    unfold sx_args at h
    unfold lv_args
    split at h
    · rename_i h2
      rw [if_pos (by rw [hc]; exact h2)]
      match j, h with
      | 0, h =>
        cases h
        exact ⟨v, rf_ld_hd _ _ _, hv.1⟩
      | 1, h => cases h
      | t + 2, h =>
        obtain ⟨w, w1, w2⟩ := sx_argso (i + 2) hv.2 t x h
        refine ⟨w, ?_, w2⟩
        rw [rf_ld_tl _ _ (by omega), ← w1]
        congr 1
        omega
    · rename_i h2
      rw [if_neg (by rw [hc]; exact h2)]
      match j, h with
      | 0, h =>
        cases h
        exact ⟨v, rf_ld_hd _ _ _, hv.1⟩
      | t + 1, h =>
        obtain ⟨w, w1, w2⟩ := sx_argso (i + 1) hv.2 t x h
        refine ⟨w, ?_, w2⟩
        rw [rf_ld_tl _ _ (by omega), ← w1]
        congr 1
        omega
  | [], _ :: _, _, h, _, _, _ => h.elim
  | _ :: _, [], _, h, _, _, _ => h.elim
theorem sx_argl : ∀ {xs : List sxV} {vs : List Value}, sx_vs W xs vs → (lg_sl vs).length = (sx_args xs).length
  | [], [], _ => rfl
  | x :: xs, v :: vs, h => by
    have hc := sx_cto h.1
    have ih := sx_argl h.2
    unfold lg_sl at ih ⊢
    have e : sx_args (x :: xs) = if sx_ct x = 2 then some x :: none :: sx_args xs else some x :: sx_args xs := rfl
    rw [List.flatMap_cons, List.length_append, ih, e]
    by_cases h2 : sx_ct x = 2
    · rw [if_pos (by rw [hc]; exact h2), if_pos h2]
      simp only [List.length_cons, List.length_nil]
      omega
    · rw [if_neg (by rw [hc]; exact h2), if_neg h2]
      simp only [List.length_cons, List.length_nil]
      omega
  | [], _ :: _, h => h.elim
  | _ :: _, [], h => h.elim
theorem sx_frmo {xs : List sxV} {vs : List Value} {nL : Nat} (h : sx_vs W xs vs) : sx_ls W (sx_frm xs nL) (lv_args 0 vs) := by
  intro j x hj
  have h2 : sx_ld (sx_args xs) j = some x := by
    unfold sx_ld sx_frm at hj
    unfold sx_ld
    by_cases hl : j < (sx_args xs).length
    · rw [List.getElem?_append_left hl] at hj
      exact hj
    · rw [List.getElem?_append_right (by omega)] at hj
      split at hj
      · rename_i y hy
        have := List.eq_of_mem_replicate (List.mem_of_getElem? hy)
        subst this
        cases hj
      · cases hj
  obtain ⟨v, v1, v2⟩ := sx_argso 0 h j x h2
  exact ⟨v, by rw [Nat.zero_add] at v1; exact v1, v2⟩
theorem sx_newf (hE : sx_e U W E M) {f : sxF} {v : Value} (hf : sx_fits U f v) : ∃ W', sx_le W W' ∧ sx_e U W' (sx_new E f).2 M ∧ sx_v W' (sx_new E f).1 v := by
  rcases f with ⟨lo, hi⟩ | (_ | ⟨g, nul⟩)
  · obtain ⟨z, rfl, z1, z2⟩ := hf; exact sx_fi hE z z1 z2
  · obtain ⟨z, rfl⟩ := hf; exact sx_flo hE z
  · obtain ⟨o, rfl, ho⟩ := hf; exact sx_frr hE o ho
def sx_fitl (U : sxU) : List sxF → List Value → Prop
  | [], [] => True
  | f :: fs, v :: vs => sx_fits U f v ∧ sx_fitl U fs vs
  | _, _ => False
theorem sx_peo : ∀ {fs : List sxF} {vs : List Value} {W : sxW} {E : sxE}, sx_e U W E M → sx_fitl U fs vs → ∃ W', sx_le W W' ∧ sx_e U W' (sx_pe fs E).2 M ∧ sx_vs W' (sx_pe fs E).1 vs
  | [], [], W, E, hE, _ => ⟨W, sx_le_rfl W, hE, trivial⟩
  | f :: fs, v :: vs, W, E, hE, h => by
    obtain ⟨W1, w1, w2, w3⟩ := sx_newf hE h.1
    obtain ⟨W2, v1, v2, v3⟩ := sx_peo w2 h.2
    exact ⟨W2, w1.trans v1, v2, w3.mono v1, v3⟩
  | [], _ :: _, _, _, _, h => h.elim
  | _ :: _, [], _, _, _, h => h.elim
theorem sx_pfito (hE : sx_e U W E M) : ∀ {xs : List sxV} {fs : List sxF} {vs : List Value}, sx_pfit E xs fs = true → sx_vs W xs vs → sx_fitl U fs vs
  | [], [], [], _, _ => trivial
  | x :: xs, f :: fs, v :: vs, h, hv => by
    unfold sx_pfit at h
    rw [Bool.and_eq_true] at h
    exact ⟨sx_woko hE hv.1 h.1, sx_pfito hE h.2 hv.2⟩
  | [], _ :: _, _, h, _ => by cases h
  | _ :: _, [], _, h, _ => by cases h
  | [], [], _ :: _, _, h => h.elim
  | _ :: _, _ :: _, [], _, h => h.elim
theorem sx_new_kn (E : sxE) (f : sxF) : (sx_new E f).2.2.2.2.1 = E.2.2.2.1 ∧ (sx_new E f).2.2.2.2.2 = E.2.2.2.2 := by rcases f with ⟨_, _⟩ | (_ | ⟨_, _⟩) <;> exact ⟨rfl, rfl⟩
theorem sx_pe_kn : ∀ (fs : List sxF) (E : sxE), (sx_pe fs E).2.2.2.2.1 = E.2.2.2.1 ∧ (sx_pe fs E).2.2.2.2.2 = E.2.2.2.2
  | [], _ => ⟨rfl, rfl⟩
  | f :: fs, E => by
    obtain ⟨h1, h2⟩ := sx_pe_kn fs (sx_new E f).2
    obtain ⟨h3, h4⟩ := sx_new_kn E f
    exact ⟨h1.trans h3, h2.trans h4⟩
/-- where nothing is known of fields, the memory doesn't matter -/
theorem sx_e_mem (hE : sx_e U W E M) (hk : E.2.2.2.1 = []) (M' : rf_M) : sx_e U W E M' := ⟨hE.1, hE.2.1, hE.2.2.1, hE.2.2.2.1, hE.2.2.2.2.1, hE.2.2.2.2.2.1, (fun s k x hx => by rw [hk] at hx; cases hx), hE.2.2.2.2.2.2.2⟩
theorem sx_e0 (M : rf_M) : sx_e U ([], [], []) sx_E0 M := ⟨rfl, rfl, rfl, (fun s b h => by cases h), (fun s b h => by cases h), (fun s b h => by cases h), (fun s k x h => by cases h), (fun t s h => by cases h)⟩
theorem sx_v_det {x : sxV} {v w : Value} (h1 : sx_v W x v) (h2 : sx_v W x w) : v = w := by
  rcases x with ⟨s, c⟩ | c | s | (_ | s)
  · obtain ⟨z, y, rfl, e1, e2⟩ := h1
    obtain ⟨z', y', rfl, e3, e4⟩ := h2
    rw [e1] at e3; cases e3
    exact congrArg Value.int (Int32.toInt_inj.mp (e2.trans e4.symm))
  · obtain ⟨z, rfl, e2⟩ := h1
    obtain ⟨z', rfl, e4⟩ := h2
    exact congrArg Value.int (Int32.toInt_inj.mp (e2.trans e4.symm))
  · obtain ⟨y, rfl, e1⟩ := h1
    obtain ⟨y', rfl, e3⟩ := h2
    rw [e1] at e3; cases e3; rfl
  · cases h1; cases h2; rfl
  · obtain ⟨y, rfl, e1⟩ := h1
    obtain ⟨y', rfl, e3⟩ := h2
    rw [e1] at e3; cases e3; rfl
theorem sx_eqo {x y : sxV} (h : sx_eq x y = true) : x = y := by
  unfold sx_eq at h
  split at h
  · simp only [Bool.and_eq_true, decide_eq_true_eq] at h
    rw [h.1, h.2]
  · simp only [decide_eq_true_eq] at h; rw [h]
  · simp only [decide_eq_true_eq] at h; rw [h]
  · cases h
theorem sx_vs_get : ∀ {xs : List sxV} {vs : List Value} {p : Nat} {x : sxV}, sx_vs W xs vs → xs[p]? = some x → ∃ v, vs[p]? = some v ∧ sx_v W x v
  | x0 :: xs, v :: vs, 0, x, h, hp => by cases hp; exact ⟨v, rfl, h.1⟩
  | x0 :: xs, v :: vs, p + 1, x, h, hp => sx_vs_get (xs := xs) (vs := vs) (p := p) h.2 hp
  | [], [], _, _, _, hp => by cases hp
  | [], _ :: _, _, _, h, _ => h.elim
  | _ :: _, [], _, _, h, _ => h.elim
/-- at a place where walks end: the locals as they are there, with ghosts of their own -/
theorem sx_klo {W0 : sxW} {ps : List sxV} {args : List Value} {sl : List (Option sxV)} {ls : rf_L} (hps : sx_vs W0 ps args) (hw0 : sx_le W0 W) (hE : sx_e U W E M) (hl : sx_ls W sl ls) : ∀ (loc : List (Option (Nat ⊕ sxF))) (i : Nat) (Wc : sxW) (Ec : sxE), sx_le W0 Wc → sx_e U Wc Ec M → sx_lfit ps E sl loc i = true → ∃ W', sx_le Wc W' ∧ sx_e U W' (sx_kl ps loc Ec).2 M ∧ ∀ j x, sx_ld (sx_kl ps loc Ec).1 j = some x → ∃ v, rf_ld ls (i + j) = some v ∧ sx_v W' x v := by
  intro loc
  induction loc with
  | nil =>
    intro i Wc Ec _ hEc _
    refine ⟨Wc, sx_le_rfl Wc, hEc, fun j x hj => ?_⟩
    unfold sx_ld sx_kl at hj
    simp at hj
  | cons o t ih =>
    intro i Wc Ec hc hEc hf
    have tail : ∀ (W' : sxW) (y : Option sxV) (sl' : List (Option sxV)), (∀ x, y = some x → ∃ v, rf_ld ls i = some v ∧ sx_v W' x v) → (∀ j x, sx_ld sl' j = some x → ∃ v, rf_ld ls (i + 1 + j) = some v ∧ sx_v W' x v) → ∀ j x, sx_ld (y :: sl') j = some x → ∃ v, rf_ld ls (i + j) = some v ∧ sx_v W' x v := by
      intro W' y sl' h1 h2 j x hj
      match j, hj with
      | 0, hj => exact h1 x hj
      | j + 1, hj =>
        obtain ⟨v, v1, v2⟩ := h2 j x hj
        exact ⟨v, by rw [← v1]; congr 1; omega, v2⟩
    match o with
    | none =>
      obtain ⟨W', h1, h2, h3⟩ := ih (i + 1) Wc Ec hc hEc hf
      exact ⟨W', h1, h2, tail W' none _ (fun x h => by cases h) h3⟩
    | some (.inl p) =>
      unfold sx_lfit at hf
      rw [Bool.and_eq_true] at hf
      obtain ⟨W', h1, h2, h3⟩ := ih (i + 1) Wc Ec hc hEc hf.2
      refine ⟨W', h1, h2, tail W' ps[p]? _ (fun x hx => ?_) h3⟩
      have hf1 := hf.1
      split at hf1
      · rename_i y z hy hz
        rw [hx] at hz
        cases hz
        have e := sx_eqo hf1
        subst e
        obtain ⟨v, v1, v2⟩ := hl i y hy
        obtain ⟨v0, u1, u2⟩ := sx_vs_get hps hx
        have := sx_v_det v2 (u2.mono hw0)
        subst this
        exact ⟨v, v1, u2.mono (hc.trans h1)⟩
      · cases hf1
    | some (.inr f) =>
      unfold sx_lfit at hf
      rw [Bool.and_eq_true] at hf
      have hf1 := hf.1
      split at hf1
      · rename_i y hy
        obtain ⟨v, v1, v2⟩ := hl i y hy
        obtain ⟨W1, w1, w2, w3⟩ := sx_newf hEc (sx_woko hE v2 hf1)
        obtain ⟨W', h1, h2, h3⟩ := ih (i + 1) W1 (sx_new Ec f).2 (hc.trans w1) w2 hf.2
        refine ⟨W', w1.trans h1, h2, tail W' _ _ (fun x hx => ?_) h3⟩
        cases hx
        exact ⟨v, v1, w3.mono h1⟩
      · cases hf1
theorem sx_cmpo {b : Bool} {sl slK : List (Option sxV)} {ls : rf_L} {W' : sxW} {a a' : sxN} {m : sxM} (hE : sx_e U W E M) (hl : sx_ls W sl ls) (hl' : sx_ls W' slK ls) (h : sx_cmp b E sl a m = true) (hr : sx_res slK m = some a') : if b = true then sx_nv W' a' < sx_nv W a else sx_nv W' a' ≤ sx_nv W a := by
  unfold sx_cmp at h
  split at h
  · cases hr
    cases b
    · simpa [sx_nv] using h
    · simpa [sx_nv] using h
  · rename_i s hi j hi'
    split at h
    · rename_i t c hj
      split at h
      · rename_i bb hb
        simp only [Bool.and_eq_true, decide_eq_true_eq] at h
        obtain ⟨⟨⟨rfl, rfl⟩, h3⟩, h4⟩ := h
        unfold sx_res at hr
        dsimp only at hr
        split at hr
        · rename_i s' c' hj'
          split at hr
          · rename_i hc0
            cases hr
            subst hc0
            obtain ⟨v, v1, z, y, rfl, v2, v3⟩ := hl j _ hj
            obtain ⟨v', u1, z', y', e, u2, u3⟩ := hl' j _ hj'
            rw [v1] at u1
            cases u1
            cases e
            obtain ⟨y0, g1, g2, g3⟩ := hE.2.2.2.1 _ _ hb
            rw [v2] at g1
            cases g1
            unfold sx_nv
            dsimp only
            rw [u2, v2]
            simp only [Option.getD_some]
            cases b
            · simp only [Bool.false_eq_true, if_false, decide_eq_true_eq] at h3 ⊢
              omega
            · simp only [if_true, decide_eq_true_eq] at h3 ⊢
              omega
          · cases hr
        · cases hr
      · cases h
    · cases h
  · rename_i s lo j lo'
    split at h
    · rename_i t c hj
      split at h
      · rename_i bb hb
        simp only [Bool.and_eq_true, decide_eq_true_eq] at h
        obtain ⟨⟨⟨rfl, rfl⟩, h3⟩, h4⟩ := h
        unfold sx_res at hr
        dsimp only at hr
        split at hr
        · rename_i s' c' hj'
          split at hr
          · rename_i hc0
            cases hr
            subst hc0
            obtain ⟨v, v1, z, y, rfl, v2, v3⟩ := hl j _ hj
            obtain ⟨v', u1, z', y', e, u2, u3⟩ := hl' j _ hj'
            rw [v1] at u1
            cases u1
            cases e
            obtain ⟨y0, g1, g2, g3⟩ := hE.2.2.2.1 _ _ hb
            rw [v2] at g1
            cases g1
            unfold sx_nv
            dsimp only
            rw [u2, v2]
            simp only [Option.getD_some]
            cases b
            · simp only [Bool.false_eq_true, if_false, decide_eq_true_eq] at h3 ⊢
              omega
            · simp only [if_true, decide_eq_true_eq] at h3 ⊢
              omega
          · cases hr
        · cases hr
      · cases h
    · cases h
  · cases h
def sx_lt3 (a b : Nat × Nat × Nat) : Prop := a.1 < b.1 ∨ (a.1 ≤ b.1 ∧ (a.2.1 < b.2.1 ∨ (a.2.1 ≤ b.2.1 ∧ a.2.2 < b.2.2)))
theorem sx_ind3 {P : Nat × Nat × Nat → Prop} (h : ∀ x, (∀ y, sx_lt3 y x → P y) → P x) : ∀ x, P x := by
  have key : ∀ a b c, P (a, b, c) := by
    intro a
    induction a using Nat.strongRecOn with
    | _ a iha =>
      intro b
      induction b using Nat.strongRecOn with
      | _ b ihb =>
        intro c
        induction c using Nat.strongRecOn with
        | _ c ihc =>
          refine h _ (fun y hy => ?_)
          obtain ⟨y1, y2, y3⟩ := y
          unfold sx_lt3 at hy
          dsimp only at hy
          by_cases e1 : y1 < a
          · exact iha y1 e1 y2 y3
          · have e1 : y1 = a := by omega
            subst e1
            by_cases e2 : y2 < b
            · exact ihb y2 e2 y3
            · have e2 : y2 = b := by omega
              subst e2
              exact ihc y3 (by omega)
  exact fun x => key x.1 x.2.1 x.2.2
theorem sx_all_mem {α β : Type} {f : α → Option (List β)} : ∀ {l : List α} {r : List β}, sx_all f l = some r → ∀ x ∈ l, ∃ a, f x = some a ∧ ∀ b ∈ a, b ∈ r
  | [], _, _, x, hx => by cases hx
  | y :: l, r, h, x, hx => by
    unfold sx_all at h
    split at h
    · rename_i a b ha hb
      cases h
      rcases List.mem_cons.mp hx with e | e
      · subst e
        exact ⟨a, ha, fun z hz => List.mem_append_left _ hz⟩
      · obtain ⟨a', g1, g2⟩ := sx_all_mem hb x e
        exact ⟨a', g1, fun z hz => List.mem_append_right _ (g2 z hz)⟩
    · cases h
end SXA
