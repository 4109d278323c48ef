/-! the walk is sound: its pieces -/
section SXA
variable {U : sxU} {W : sxW} {E : sxE} {M M' M0 : rf_M} {sst : List sxV} {st : List Value} {md : List (Nat × Nat)}
theorem sx_vs_len : ∀ {sst : List sxV} {st : List Value}, sx_vs W sst st → st.length = sst.length
  | [], [], _ => rfl
  | _ :: _, _ :: _, h => by rw [List.length_cons, List.length_cons, sx_vs_len h.2]
  | [], _ :: _, h => h.elim
  | _ :: _, [], h => h.elim
theorem sx_vs_app : ∀ {xs : List sxV} {vs : List Value} {ys : List sxV} {ws : List Value}, sx_vs W xs vs → sx_vs W ys ws → sx_vs W (xs ++ ys) (vs ++ ws)
  | [], [], _, _, _, h => h
  | _ :: _, _ :: _, _, _, h, h2 => ⟨h.1, sx_vs_app h.2 h2⟩
  | [], _ :: _, _, _, h, _ => h.elim
  | _ :: _, [], _, _, h, _ => h.elim
theorem sx_vs_rev : ∀ {xs : List sxV} {vs : List Value}, sx_vs W xs vs → sx_vs W xs.reverse vs.reverse
  | [], [], _ => trivial
  | _ :: _, _ :: _, h => by
    rw [List.reverse_cons, List.reverse_cons]
    exact sx_vs_app (sx_vs_rev h.2) ⟨h.1, trivial⟩
  | [], _ :: _, h => h.elim
  | _ :: _, [], h => h.elim
theorem sx_vs_drop : ∀ (n : Nat) {xs : List sxV} {vs : List Value}, sx_vs W xs vs → sx_vs W (xs.drop n) (vs.drop n)
  | 0, _, _, h => h
  | _ + 1, [], [], _ => trivial
  | n + 1, _ :: _, _ :: _, h => sx_vs_drop n h.2
  | _ + 1, [], _ :: _, h => h.elim
  | _ + 1, _ :: _, [], h => h.elim
theorem sx_vs_take : ∀ (n : Nat) {xs : List sxV} {vs : List Value}, sx_vs W xs vs → sx_vs W (xs.take n) (vs.take n)
  | 0, _, _, _ => trivial
  | _ + 1, [], [], _ => trivial
  | n + 1, _ :: _, _ :: _, h => ⟨h.1, sx_vs_take n h.2⟩
  | _ + 1, [], _ :: _, h => h.elim
  | _ + 1, _ :: _, [], h => h.elim
theorem sx_cao {J : Instr} {aux : List (Int × Nat)} {a : Nat × List sxV × List sxV} (hE : sx_e U W E M) (hs : sx_vs W sst st) (h : sx_ca U J aux sst E = some a) : ∃ as r, rf_ca U.1.1 J aux st (M, U.1.2.2.2.1) = some (a.1, as, r) ∧ sx_vs W a.2.1 as ∧ sx_vs W a.2.2 r := by
  unfold sx_ca at h
  split at h
  · rename_i q tg
    split at h
    · split at h
      · rename_i x r hd
        have hdr := sx_vs_drop q.2 hs
        rw [hd] at hdr
        cases hst : st.drop q.2 with
        | nil => rw [hst] at hdr; exact hdr.elim
        | cons v r' =>
          rw [hst] at hdr
          obtain ⟨h1, h2⟩ := hdr
          split at h
          · rename_i s g ci fs hob
            obtain ⟨b, rfl, b1, b2, b3, b4⟩ := sx_obo hE hob h1
            dsimp only at b3
            split at h
            · rename_i j hj
              split at h
              · rename_i hc
                cases h
                refine ⟨.ref b :: (st.take q.2).reverse, r', ?_, ⟨h1, sx_vs_rev (sx_vs_take _ hs)⟩, h2⟩
                unfold rf_ca
                dsimp only
                rw [hst]
                dsimp only
                rw [b3.ob]
                dsimp only
                rw [b3.ky, hj]
                dsimp only
                rw [if_pos ⟨by rw [sx_vs_len hs]; exact hc.1, by rw [sx_ctso h2]; exact hc.2⟩]
              · cases h
            · cases h
          · cases h
      · cases h
    · split at h
      · rename_i z j
        split at h
        · rename_i hc
          cases h
          refine ⟨(st.take q.2).reverse, st.drop q.2, ?_, sx_vs_rev (sx_vs_take _ hs), sx_vs_drop _ hs⟩
          unfold rf_ca
          dsimp only
          rw [if_pos ⟨by rw [sx_vs_len hs]; exact hc.1, by rw [sx_ctso (sx_vs_drop _ hs)]; exact hc.2⟩]
        · cases h
      · cases h
    · cases h
  · cases h
theorem sx_argso : ∀ {xs : List sxV} {vs : List Value} (i : Nat), sx_vs W xs vs → ∀ j x, sx_ld (sx_args xs) j = some x → ∃ v, rf_ld (lv_args i vs) (i + j) = some v ∧ sx_v W x v
  | [], [], _, _, j, x, h => by
    unfold sx_ld sx_args at h
    simp at h
  | y :: xs, v :: vs, i, hv, j, x, h => by
    have hc := sx_cto hv.1
    unfold sx_args at h
    unfold lv_args
    split at h
    · rename_i h2
      rw [if_pos (by rw [hc]; exact h2)]
      match j, h with
      | 0, h =>
        cases h
        exact ⟨v, rf_ld_hd _ _ _, hv.1⟩
      | 1, h => cases h
      | t + 2, h =>
        obtain ⟨w, w1, w2⟩ := sx_argso (i + 2) hv.2 t x h
        refine ⟨w, ?_, w2⟩
        rw [rf_ld_tl _ _ (by omega), ← w1]
        congr 1
        omega
    · rename_i h2
      rw [if_neg (by rw [hc]; exact h2)]
      match j, h with
      | 0, h =>
        cases h
        exact ⟨v, rf_ld_hd _ _ _, hv.1⟩
      | t + 1, h =>
        obtain ⟨w, w1, w2⟩ := sx_argso (i + 1) hv.2 t x h
        refine ⟨w, ?_, w2⟩
        rw [rf_ld_tl _ _ (by omega), ← w1]
        congr 1
        omega
  | [], _ :: _, _, h, _, _, _ => h.elim
  | _ :: _, [], _, h, _, _, _ => h.elim
theorem sx_argl : ∀ {xs : List sxV} {vs : List Value}, sx_vs W xs vs → (lg_sl vs).length = (sx_args xs).length
  | [], [], _ => rfl
  | x :: xs, v :: vs, h => by
    have hc := sx_cto h.1
    have ih := sx_argl h.2
    unfold lg_sl at ih ⊢
    have e : sx_args (x :: xs) = if sx_ct x = 2 then some x :: none :: sx_args xs else some x :: sx_args xs := rfl
    rw [List.flatMap_cons, List.length_append, ih, e]
    by_cases h2 : sx_ct x = 2
    · rw [if_pos (by rw [hc]; exact h2), if_pos h2]
      simp only [List.length_cons, List.length_nil]
      omega
    · rw [if_neg (by rw [hc]; exact h2), if_neg h2]
      simp only [List.length_cons, List.length_nil]
      omega
  | [], _ :: _, h => h.elim
  | _ :: _, [], h => h.elim
theorem sx_frmo {xs : List sxV} {vs : List Value} {nL : Nat} (h : sx_vs W xs vs) : sx_ls W (sx_frm xs nL) (lv_args 0 vs) := by
  intro j x hj
  have h2 : sx_ld (sx_args xs) j = some x := by
    unfold sx_ld sx_frm at hj
    unfold sx_ld
    by_cases hl : j < (sx_args xs).length
    · rw [List.getElem?_append_left hl] at hj
      exact hj
    · rw [List.getElem?_append_right (by omega)] at hj
      split at hj
      · rename_i y hy
        have := List.eq_of_mem_replicate (List.mem_of_getElem? hy)
        subst this
        cases hj
      · cases hj
  obtain ⟨v, v1, v2⟩ := sx_argso 0 h j x h2
  exact ⟨v, by rw [Nat.zero_add] at v1; exact v1, v2⟩
theorem sx_newf (hE : sx_e U W E M) {f : sxF} {v : Value} (hf : sx_fits U f v) : ∃ W', sx_le W W' ∧ sx_e U W' (sx_new E f).2 M ∧ sx_v W' (sx_new E f).1 v := by
  rcases f with ⟨lo, hi⟩ | (_ | ⟨g, nul⟩)
  · obtain ⟨z, rfl, z1, z2⟩ := hf; exact sx_fi hE z z1 z2
  · obtain ⟨z, rfl⟩ := hf; exact sx_flo hE z
  · obtain ⟨o, rfl, ho⟩ := hf; exact sx_frr hE o ho
def sx_fitl (U : sxU) : List sxF → List Value → Prop
  | [], [] => True
  | f :: fs, v :: vs => sx_fits U f v ∧ sx_fitl U fs vs
  | _, _ => False
theorem sx_peo : ∀ {fs : List sxF} {vs : List Value} {W : sxW} {E : sxE}, sx_e U W E M → sx_fitl U fs vs → ∃ W', sx_le W W' ∧ sx_e U W' (sx_pe fs E).2 M ∧ sx_vs W' (sx_pe fs E).1 vs
  | [], [], W, E, hE, _ => ⟨W, sx_le_rfl W, hE, trivial⟩
  | f :: fs, v :: vs, W, E, hE, h => by
    obtain ⟨W1, w1, w2, w3⟩ := sx_newf hE h.1
    obtain ⟨W2, v1, v2, v3⟩ := sx_peo w2 h.2
    exact ⟨W2, w1.trans v1, v2, w3.mono v1, v3⟩
  | [], _ :: _, _, _, _, h => h.elim
  | _ :: _, [], _, _, _, h => h.elim
theorem sx_pfito (hE : sx_e U W E M) : ∀ {xs : List sxV} {fs : List sxF} {vs : List Value}, sx_pfit E xs fs = true → sx_vs W xs vs → sx_fitl U fs vs
  | [], [], [], _, _ => trivial
  | x :: xs, f :: fs, v :: vs, h, hv => by
    unfold sx_pfit at h
    rw [Bool.and_eq_true] at h
    exact ⟨sx_woko hE hv.1 h.1, sx_pfito hE h.2 hv.2⟩
  | [], _ :: _, _, h, _ => by cases h
  | _ :: _, [], _, h, _ => by cases h
  | [], [], _ :: _, _, h => h.elim
  | _ :: _, _ :: _, [], _, h => h.elim
theorem sx_new_kn (E : sxE) (f : sxF) : (sx_new E f).2.2.2.2.1 = E.2.2.2.1 ∧ (sx_new E f).2.2.2.2.2 = E.2.2.2.2 := by rcases f with ⟨_, _⟩ | (_ | ⟨_, _⟩) <;> exact ⟨rfl, rfl⟩
theorem sx_pe_kn : ∀ (fs : List sxF) (E : sxE), (sx_pe fs E).2.2.2.2.1 = E.2.2.2.1 ∧ (sx_pe fs E).2.2.2.2.2 = E.2.2.2.2
  | [], _ => ⟨rfl, rfl⟩
  | f :: fs, E => by
    obtain ⟨h1, h2⟩ := sx_pe_kn fs (sx_new E f).2
    obtain ⟨h3, h4⟩ := sx_new_kn E f
    exact ⟨h1.trans h3, h2.trans h4⟩
/-- where nothing is known of fields, the memory doesn't matter -/
theorem sx_e_mem (hE : sx_e U W E M) (hk : E.2.2.2.1 = []) (M' : rf_M) : sx_e U W E M' := ⟨hE.1, hE.2.1, hE.2.2.1, hE.2.2.2.1, hE.2.2.2.2.1, hE.2.2.2.2.2.1, (fun s k x hx => by rw [hk] at hx; cases hx), hE.2.2.2.2.2.2.2⟩
theorem sx_e0 (M : rf_M) : sx_e U ([], [], []) sx_E0 M := ⟨rfl, rfl, rfl, (fun s b h => by cases h), (fun s b h => by cases h), (fun s b h => by cases h), (fun s k x h => by cases h), (fun t s h => by cases h)⟩
theorem sx_v_det {x : sxV} {v w : Value} (h1 : sx_v W x v) (h2 : sx_v W x w) : v = w := by
  rcases x with ⟨s, c⟩ | c | s | (_ | s)
  · obtain ⟨z, y, rfl, e1, e2⟩ := h1
    obtain ⟨z', y', rfl, e3, e4⟩ := h2
    rw [e1] at e3; cases e3
    exact congrArg Value.int (Int32.toInt_inj.mp (e2.trans e4.symm))
  · obtain ⟨z, rfl, e2⟩ := h1
    obtain ⟨z', rfl, e4⟩ := h2
    exact congrArg Value.int (Int32.toInt_inj.mp (e2.trans e4.symm))
  · obtain ⟨y, rfl, e1⟩ := h1
    obtain ⟨y', rfl, e3⟩ := h2
    rw [e1] at e3; cases e3; rfl
  · cases h1; cases h2; rfl
  · obtain ⟨y, rfl, e1⟩ := h1
    obtain ⟨y', rfl, e3⟩ := h2
    rw [e1] at e3; cases e3; rfl
theorem sx_eqo {x y : sxV} (h : sx_eq x y = true) : x = y := by
  unfold sx_eq at h
  split at h
  · simp only [Bool.and_eq_true, decide_eq_true_eq] at h
    rw [h.1, h.2]
  · simp only [decide_eq_true_eq] at h; rw [h]
  · simp only [decide_eq_true_eq] at h; rw [h]
  · cases h
theorem sx_vs_get : ∀ {xs : List sxV} {vs : List Value} {p : Nat} {x : sxV}, sx_vs W xs vs → xs[p]? = some x → ∃ v, vs[p]? = some v ∧ sx_v W x v
  | x0 :: xs, v :: vs, 0, x, h, hp => by cases hp; exact ⟨v, rfl, h.1⟩
  | x0 :: xs, v :: vs, p + 1, x, h, hp => sx_vs_get (xs := xs) (vs := vs) (p := p) h.2 hp
  | [], [], _, _, _, hp => by cases hp
  | [], _ :: _, _, _, h, _ => h.elim
  | _ :: _, [], _, _, h, _ => h.elim
/-- at a place where walks end: the locals as they are there, with ghosts of their own -/
theorem sx_klo {W0 : sxW} {ps : List sxV} {args : List Value} {sl : List (Option sxV)} {ls : rf_L} (hps : sx_vs W0 ps args) (hw0 : sx_le W0 W) (hE : sx_e U W E M) (hl : sx_ls W sl ls) : ∀ (loc : List (Option (Nat ⊕ sxF))) (i : Nat) (Wc : sxW) (Ec : sxE), sx_le W0 Wc → sx_e U Wc Ec M → sx_lfit ps E sl loc i = true → ∃ W', sx_le Wc W' ∧ sx_e U W' (sx_kl ps loc Ec).2 M ∧ ∀ j x, sx_ld (sx_kl ps loc Ec).1 j = some x → ∃ v, rf_ld ls (i + j) = some v ∧ sx_v W' x v := by
  intro loc
  induction loc with
  | nil =>
    intro i Wc Ec _ hEc _
    refine ⟨Wc, sx_le_rfl Wc, hEc, fun j x hj => ?_⟩
    unfold sx_ld sx_kl at hj
    simp at hj
  | cons o t ih =>
    intro i Wc Ec hc hEc hf
    have tail : ∀ (W' : sxW) (y : Option sxV) (sl' : List (Option sxV)), (∀ x, y = some x → ∃ v, rf_ld ls i = some v ∧ sx_v W' x v) → (∀ j x, sx_ld sl' j = some x → ∃ v, rf_ld ls (i + 1 + j) = some v ∧ sx_v W' x v) → ∀ j x, sx_ld (y :: sl') j = some x → ∃ v, rf_ld ls (i + j) = some v ∧ sx_v W' x v := by
      intro W' y sl' h1 h2 j x hj
      match j, hj with
      | 0, hj => exact h1 x hj
      | j + 1, hj =>
        obtain ⟨v, v1, v2⟩ := h2 j x hj
        exact ⟨v, by rw [← v1]; congr 1; omega, v2⟩
    match o with
    | none =>
      obtain ⟨W', h1, h2, h3⟩ := ih (i + 1) Wc Ec hc hEc hf
      exact ⟨W', h1, h2, tail W' none _ (fun x h => by cases h) h3⟩
    | some (.inl p) =>
      unfold sx_lfit at hf
      rw [Bool.and_eq_true] at hf
      obtain ⟨W', h1, h2, h3⟩ := ih (i + 1) Wc Ec hc hEc hf.2
      refine ⟨W', h1, h2, tail W' ps[p]? _ (fun x hx => ?_) h3⟩
      have hf1 := hf.1
      split at hf1
      · rename_i y z hy hz
        rw [hx] at hz
        cases hz
        have e := sx_eqo hf1
        subst e
        obtain ⟨v, v1, v2⟩ := hl i y hy
        obtain ⟨v0, u1, u2⟩ := sx_vs_get hps hx
        have := sx_v_det v2 (u2.mono hw0)
        subst this
        exact ⟨v, v1, u2.mono (hc.trans h1)⟩
      · cases hf1
    | some (.inr f) =>
      unfold sx_lfit at hf
      rw [Bool.and_eq_true] at hf
      have hf1 := hf.1
      split at hf1
      · rename_i y hy
        obtain ⟨v, v1, v2⟩ := hl i y hy
        obtain ⟨W1, w1, w2, w3⟩ := sx_newf hEc (sx_woko hE v2 hf1)
        obtain ⟨W', h1, h2, h3⟩ := ih (i + 1) W1 (sx_new Ec f).2 (hc.trans w1) w2 hf.2
        refine ⟨W', w1.trans h1, h2, tail W' _ _ (fun x hx => ?_) h3⟩
        cases hx
        exact ⟨v, v1, w3.mono h1⟩
      · cases hf1
theorem sx_cmpo {b : Bool} {sl slK : List (Option sxV)} {ls : rf_L} {W' : sxW} {a a' : sxN} {m : sxM} (hE : sx_e U W E M) (hl : sx_ls W sl ls) (hl' : sx_ls W' slK ls) (h : sx_cmp b E sl a m = true) (hr : sx_res slK m = some a') : if b = true then sx_nv W' a' < sx_nv W a else sx_nv W' a' ≤ sx_nv W a := by
  unfold sx_cmp at h
  split at h
  · cases hr
    cases b
    · simpa [sx_nv] using h
    · simpa [sx_nv] using h
  · rename_i s hi j hi'
    split at h
    · rename_i t c hj
      split at h
      · rename_i bb hb
        simp only [Bool.and_eq_true, decide_eq_true_eq] at h
        obtain ⟨⟨⟨rfl, rfl⟩, h3⟩, h4⟩ := h
        unfold sx_res at hr
        dsimp only at hr
        split at hr
        · rename_i s' c' hj'
          split at hr
          · rename_i hc0
            cases hr
            subst hc0
            obtain ⟨v, v1, z, y, rfl, v2, v3⟩ := hl j _ hj
            obtain ⟨v', u1, z', y', e, u2, u3⟩ := hl' j _ hj'
            rw [v1] at u1
            cases u1
            cases e
            obtain ⟨y0, g1, g2, g3⟩ := hE.2.2.2.1 _ _ hb
            rw [v2] at g1
            cases g1
            unfold sx_nv
            dsimp only
            rw [u2, v2]
            simp only [Option.getD_some]
            cases b
            · simp only [Bool.false_eq_true, if_false, decide_eq_true_eq] at h3 ⊢
              omega
            · simp only [if_true, decide_eq_true_eq] at h3 ⊢
              omega
          · cases hr
        · cases hr
      · cases h
    · cases h
  · rename_i s lo j lo'
    split at h
    · rename_i t c hj
      split at h
      · rename_i bb hb
        simp only [Bool.and_eq_true, decide_eq_true_eq] at h
        obtain ⟨⟨⟨rfl, rfl⟩, h3⟩, h4⟩ := h
        unfold sx_res at hr
        dsimp only at hr
        split at hr
        · rename_i s' c' hj'
          split at hr
          · rename_i hc0
            cases hr
            subst hc0
            obtain ⟨v, v1, z, y, rfl, v2, v3⟩ := hl j _ hj
            obtain ⟨v', u1, z', y', e, u2, u3⟩ := hl' j _ hj'
            rw [v1] at u1
            cases u1
            cases e
            obtain ⟨y0, g1, g2, g3⟩ := hE.2.2.2.1 _ _ hb
            rw [v2] at g1
            cases g1
            unfold sx_nv
            dsimp only
            rw [u2, v2]
            simp only [Option.getD_some]
            cases b
            · simp only [Bool.false_eq_true, if_false, decide_eq_true_eq] at h3 ⊢
              omega
            · simp only [if_true, decide_eq_true_eq] at h3 ⊢
              omega
          · cases hr
        · cases hr
      · cases h
    · cases h
  · cases h
def sx_lt3 (a b : Nat × Nat × Nat) : Prop := a.1 < b.1 ∨ (a.1 ≤ b.1 ∧ (a.2.1 < b.2.1 ∨ (a.2.1 ≤ b.2.1 ∧ a.2.2 < b.2.2)))
theorem sx_ind3 {P : Nat × Nat × Nat → Prop} (h : ∀ x, (∀ y, sx_lt3 y x → P y) → P x) : ∀ x, P x := by
  have key : ∀ a b c, P (a, b, c) := by
    intro a
    induction a using Nat.strongRecOn with
    | _ a iha =>
      intro b
      induction b using Nat.strongRecOn with
      | _ b ihb =>
        intro c
        induction c using Nat.strongRecOn with
        | _ c ihc =>
          refine h _ (fun y hy => ?_)
          obtain ⟨y1, y2, y3⟩ := y
          unfold sx_lt3 at hy
          dsimp only at hy
          by_cases e1 : y1 < a
          · exact iha y1 e1 y2 y3
          · have e1 : y1 = a := by omega
            subst e1
            by_cases e2 : y2 < b
            · exact ihb y2 e2 y3
            · have e2 : y2 = b := by omega
              subst e2
              exact ihc y3 (by omega)
  exact fun x => key x.1 x.2.1 x.2.2
theorem sx_all_mem {α β : Type} {f : α → Option (List β)} : ∀ {l : List α} {r : List β}, sx_all f l = some r → ∀ x ∈ l, ∃ a, f x = some a ∧ ∀ b ∈ a, b ∈ r
  | [], _, _, x, hx => by cases hx
  | y :: l, r, h, x, hx => by
    unfold sx_all at h
    split at h
    · rename_i a b ha hb
      cases h
      rcases List.mem_cons.mp hx with e | e
      · subst e
        exact ⟨a, ha, fun z hz => List.mem_append_left _ hz⟩
      · obtain ⟨a', g1, g2⟩ := sx_all_mem hb x e
        exact ⟨a', g1, fun z hz => List.mem_append_right _ (g2 z hz)⟩
    · cases h
end SXA
/-! THE WALK IS SOUND -/
def sx_mv (c : sxC) (args : List Value) : Nat := c.2.2.2.2.1 + c.2.2.2.2.2.1 * (match args[c.2.2.2.2.2.2.1]? with
  | some (.int z) => (c.2.2.2.2.2.2.2.1 - z.toInt).toNat
  | _ => 0)
def sx_rm (T : sxT) (d : Nat × Nat) (μ : Nat) : Prop := μ ≤ d.1 ∧ μ * T.2.2.2 + 30 ≤ d.2
def sx_pok (U : sxU) (post : Option sxF) (v : Option Value) : Prop := match post, v with
  | none, none => True
  | some f, some w => sx_fits U f w
  | _, _ => False
def sx_cok (T : sxT) (U : sxU) (c : sxC) (args : List Value) : Prop := ∀ (M : rf_M) (d : Nat × Nat), sx_rm T d (sx_mv c args) → sx_in U M → sx_fitl U c.2.1 args → gx U.1.1 d c.1 0 (lv_args 0 args) [] (M, U.1.2.2.2.1) (fun v h' => ∃ M', h' = (M', U.1.2.2.2.1) ∧ sx_in U M' ∧ sx_fr U c.2.2.2.1 M M' ∧ sx_pok U c.2.2.1 v)
def sx_mu (q : sxQ) (W : sxW) (μ : Nat) : Prop := match q.2.2.1 with
  | none => μ = q.2.1
  | some m => ∃ y, W.1[m.2.1]? = some y ∧ μ = q.2.1 + m.1 * (m.2.2 - y).toNat
section SXB
variable {T : sxT} {U : sxU} {W W' : sxW} {E : sxE} {M M' M0 : rf_M} {sst : List sxV} {st : List Value}
theorem sx_mu.mono {q : sxQ} {μ : Nat} (hw : sx_le W W') (h : sx_mu q W μ) : sx_mu q W' μ := by
  unfold sx_mu at h ⊢
  split
  · rename_i e
    rw [e] at h
    exact h
  · rename_i m e
    rw [e] at h
    obtain ⟨y, h1, h2⟩ := h
    exact ⟨y, hw.1 _ _ h1, h2⟩
theorem sx_mu.base {q : sxQ} {μ : Nat} (h : sx_mu q W μ) : q.2.1 ≤ μ := by
  unfold sx_mu at h
  split at h
  · omega
  · obtain ⟨y, h1, h2⟩ := h
    rw [h2]
    exact Nat.le_add_right _ _
theorem sx_mlto {q : sxQ} {c : sxC} {xs : List sxV} {args : List Value} {μ : Nat} (hE : sx_e U W E M) (hv : sx_vs W xs args) (hm : sx_mu q W μ) (h : sx_mlt q c xs E = true) : sx_mv c args < μ := by
  unfold sx_mlt at h
  unfold sx_mv
  split at h
  · rename_i hc
    rw [hc, Nat.zero_mul, Nat.add_zero]
    have := hm.base
    simp only [decide_eq_true_eq] at h
    omega
  · split at h
    · rename_i x hx
      obtain ⟨v, v1, v2⟩ := sx_vs_get hv hx
      split at h
      · rename_i b hb
        obtain ⟨z, rfl, z1, z2⟩ := sx_bo hE hb v2
        rw [v1]
        dsimp only
        rw [Bool.or_eq_true] at h
        rcases h with h | h
        · simp only [decide_eq_true_eq] at h
          have h1 : (c.2.2.2.2.2.2.2.1 - z.toInt).toNat ≤ (c.2.2.2.2.2.2.2.1 - b.1).toNat := by omega
          have h2 := Nat.mul_le_mul_left c.2.2.2.2.2.1 h1
          have := hm.base
          omega
        · split at h
          · rename_i s d m hq
            simp only [Bool.and_eq_true, decide_eq_true_eq] at h
            obtain ⟨⟨⟨⟨h1, h2⟩, h3⟩, h4⟩, h5⟩ := h
            unfold sx_mu at hm
            rw [hq] at hm
            obtain ⟨y, y1, y2⟩ := hm
            obtain ⟨z', y', e1, e2, e3⟩ := v2
            cases e1
            rw [h2, e2] at y1
            have e0 : y = y' := (Option.some.inj y1).symm
            rw [y2, h1, h3, e0]
            have e4 : (c.2.2.2.2.2.2.2.1 - z.toInt).toNat = c.2.2.2.2.2.2.2.1 - z.toInt := Int.toNat_of_nonneg (by omega)
            have e5 : c.2.2.2.2.2.2.2.1 - y' ≤ ((c.2.2.2.2.2.2.2.1 - y').toNat : Int) := Int.self_le_toNat _
            have e6 : (c.2.2.2.2.2.1 : Int) * (c.2.2.2.2.2.2.2.1 - y') ≤ (c.2.2.2.2.2.1 : Int) * ((c.2.2.2.2.2.2.2.1 - y').toNat : Int) := Int.mul_le_mul_of_nonneg_left e5 (Int.natCast_nonneg _)
            have e7 : (c.2.2.2.2.2.1 : Int) * (c.2.2.2.2.2.2.2.1 - z.toInt) = (c.2.2.2.2.2.1 : Int) * (c.2.2.2.2.2.2.2.1 - y') - (c.2.2.2.2.2.1 : Int) * d := by
              rw [e3, ← Int.mul_sub]
              congr 1
              omega
            have : ((c.2.2.2.2.1 + c.2.2.2.2.2.1 * (c.2.2.2.2.2.2.2.1 - z.toInt).toNat : Nat) : Int) < ((q.2.1 + c.2.2.2.2.2.1 * (c.2.2.2.2.2.2.2.1 - y').toNat : Nat) : Int) := by
              push_cast
              rw [e4, e7]
              omega
            exact_mod_cast this
          · cases h
      · cases h
    · cases h
theorem sx_kpo {md : List (Nat × Nat)} (hE : sx_e U W E M) (hfr : sx_fr U md M M') : sx_e U W (sx_kp md E) M' := by
  refine ⟨hE.1, hE.2.1, hE.2.2.1, hE.2.2.2.1, hE.2.2.2.2.1, hE.2.2.2.2.2.1, ?_, hE.2.2.2.2.2.2.2⟩
  intro s k x hx
  obtain ⟨h1, h2⟩ := List.mem_filter.mp hx
  obtain ⟨a, ci, a1, a2, a3, a4⟩ := hE.2.2.2.2.2.2.1 s k x h1
  refine ⟨a, ci, a1, a2, a3, ?_⟩
  dsimp only at h2
  split at h2
  · rename_i b hb
    obtain ⟨o, o1, o2⟩ := hE.2.2.2.2.2.1 _ _ hb
    rw [a1] at o1
    cases o1
    have o2 : sx_rc U b.1 a := o2
    simp only [Bool.and_eq_true, Bool.not_eq_true'] at h2
    have hs : sx_same M M' a k := hfr a k (Or.inr (by
      rw [o2.2.2]
      constructor
      · intro hm
        have := List.elem_iff.mpr hm
        rw [this] at h2
        cases h2.2
      · intro hm
        have := List.elem_iff.mpr hm
        rw [this] at h2
        cases h2.1))
    rw [sx_rd_same hs]
    exact a4
  · cases h2
theorem sx_fr_sub {md md' : List (Nat × Nat)} (h0 : sx_fr U md M0 M) (h1 : sx_fr U md' M M') (hs : ∀ p ∈ md', p ∈ md) : sx_fr U md M0 M' := by
  intro a k h
  have g0 := h0 a k h
  have g1 := h1 a k (h.imp id (fun z => ⟨fun w => z.1 (hs _ w), fun w => z.2 (hs _ w)⟩))
  exact ⟨g1.1.trans g0.1, g1.2.1.trans g0.2.1, g1.2.2.trans g0.2.2⟩
theorem sx_pusho {post : Option sxF} {v : Option Value} {r : List sxV} {rc : List Value} (hE : sx_e U W E M) (hr : sx_vs W r rc) (hp : sx_pok U post v) : ∃ W', sx_le W W' ∧ sx_e U W' (sx_push post r E).2 M ∧ sx_vs W' (sx_push post r E).1 (v.toList ++ rc) := by
  unfold sx_pok at hp
  split at hp
  · exact ⟨W, sx_le_rfl W, hE, hr⟩
  · obtain ⟨W', w1, w2, w3⟩ := sx_newf hE hp
    exact ⟨W', w1, w2, w3, hr.mono w1⟩
  · exact hp.elim
theorem sx_ovo {o : Option sxV} {v : Option Value} {r : List sxV} {rc : List Value} (h : sx_ov W o v) (hr : sx_vs W r rc) : sx_vs W (o.toList ++ r) (v.toList ++ rc) := by
  unfold sx_ov at h
  split at h
  · exact hr
  · exact ⟨h, hr⟩
  · exact h.elim
theorem sx_room {d : Nat × Nat} {μ μ' ml : Nat} (h : sx_rm T d μ) (hl : μ' < μ) (hm : ml + 19 ≤ T.2.2.2) : 1 ≤ d.1 ∧ ml + 19 ≤ d.2 ∧ sx_rm T (d.1 - 1, d.2 - (ml + 19)) μ' := by
  obtain ⟨h1, h2⟩ := h
  have h3 : (μ' + 1) * T.2.2.2 ≤ μ * T.2.2.2 := Nat.mul_le_mul_right _ hl
  rw [Nat.add_mul, Nat.one_mul] at h3
  refine ⟨by omega, by omega, ?_, ?_⟩
  · dsimp only; omega
  · dsimp only; omega
set_option maxHeartbeats 1000000 in
theorem sx_goo (hinl : ∀ p ∈ T.1, 1 ≤ p.2) : ∀ (n : Nat) (q : sxQ) (j pc : Nat) (sl : List (Option sxV)) (sst : List sxV) (E : sxE) (outs : sxO), sx_go T U n q j pc sl sst E = some outs → ∀ (W : sxW) (ls : rf_L) (st : List Value) (M M0 : rf_M) (d : Nat × Nat) (Q : Option Value → rf_H → Prop) (μ : Nat), sx_ls W sl ls → sx_vs W sst st → sx_e U W E M → sx_in U M → sx_fr U q.1 M0 M → sx_mu q W μ → 1 ≤ μ → sx_rm T d μ → (∀ c ∈ T.2.1 ++ T.2.2.1, ∀ args, sx_mv c args < μ → sx_cok T U c args) →
    (∀ pc' t, sx_tr q pc' = some t → ∀ (W' : sxW) (sl' : List (Option sxV)) (sst' : List sxV) (E' : sxE) (ls' : rf_L) (st' : List Value) (M' : rf_M), sx_le W W' → sx_ls W' sl' ls' → sx_vs W' sst' st' → sx_e U W' E' M' → sx_in U M' → sx_fr U q.1 M0 M' → sx_atk t.1 t.2.1 t.2.2 sl' sst' E' = true → gx U.1.1 d j pc' ls' st' (M', U.1.2.2.2.1) Q) →
    (∀ o ∈ outs, ∀ (W' : sxW) (v : Option Value) (M' : rf_M), sx_le W W' → sx_e U W' o.2 M' → sx_in U M' → sx_fr U q.1 M0 M' → sx_ov W' o.1 v → Q v (M', U.1.2.2.2.1)) →
    gx U.1.1 d j pc ls st (M, U.1.2.2.2.1) Q := by
  intro n
  induction n with
  | zero =>
    intro q j pc sl sst E outs h
    unfold sx_go at h
    cases h
  | succ n ih =>
    intro q j pc sl sst E outs h W ls st M M0 d Q μ hl hs hE hin hfr hmu hmu1 hrm hch hcut hout
    have nx : ∀ (pc' : Nat) (sl' : List (Option sxV)) (sst' : List sxV) (E' : sxE) (outs' : sxO), sx_nxt q (sx_go T U n q j) pc' sl' sst' E' = some outs' → (∀ o ∈ outs', o ∈ outs) → ∀ (W' : sxW) (ls' : rf_L) (st' : List Value) (M' : rf_M), sx_le W W' → sx_ls W' sl' ls' → sx_vs W' sst' st' → sx_e U W' E' M' → sx_in U M' → sx_fr U q.1 M0 M' → gx U.1.1 d j pc' ls' st' (M', U.1.2.2.2.1) Q := by
      intro pc' sl' sst' E' outs' h' hsub W' ls' st' M' hw hl' hs' hE' hin' hfr'
      unfold sx_nxt at h'
      split at h'
      · rename_i t ht
        split at h'
        · rename_i ha
          exact hcut pc' t ht W' sl' sst' E' ls' st' M' hw hl' hs' hE' hin' hfr' ha
        · cases h'
      · exact ih q j pc' sl' sst' E' outs' h' W' ls' st' M' M0 d Q μ hl' hs' hE' hin' hfr' (hmu.mono hw) hmu1 hrm hch
          (fun pc'' t ht W'' sl'' sst'' E'' ls'' st'' M'' hw'' => hcut pc'' t ht W'' sl'' sst'' E'' ls'' st'' M'' (hw.trans hw''))
          (fun o ho W'' v M'' hw'' => hout o (hsub o ho) W'' v M'' (hw.trans hw''))
    unfold sx_go at h
    split at h
    · cases h
    · rename_i I hI
      obtain ⟨J, aux⟩ := I
      dsimp only at h
      split at h
      · rename_i hk
        obtain ⟨r, h1, h2⟩ := Option.bind_eq_some_iff.mp h
        obtain ⟨st', W', g1, g2, g3, g4⟩ := sx_aro hE h1 hs
        exact g0 hI hk g1 (nx _ _ _ _ _ h2 (fun _ z => z) W' ls st' M g2 (hl.mono g2) g4 g3 hin hfr)
      · rename_i hk
        obtain ⟨r, h1, h2⟩ := Option.bind_eq_some_iff.mp h
        obtain ⟨st', W', g1', g2, g3, g4⟩ := sx_loo (aux := aux) hl hE hs h1
        exact g1 hI hk rfl g1' (nx _ _ _ _ _ h2 (fun _ z => z) W' ls st' M g2 (hl.mono g2) g4 g3 hin hfr)
      · rename_i hk
        obtain ⟨r, h1, h2⟩ := Option.bind_eq_some_iff.mp h
        obtain ⟨ls', st', W', g1', g2', g3, g4, g5⟩ := sx_soo hl hE hs h1
        exact g2 hI hk rfl g1' (nx _ _ _ _ _ h2 (fun _ z => z) W' ls' st' M g2' g4 g5 g3 hin hfr)
      · rename_i hk
        obtain ⟨r, h1, h2⟩ := Option.bind_eq_some_iff.mp h
        obtain ⟨pc', st', g1', o, o1, o2, o3, o4⟩ := sx_bro hE hs h1
        obtain ⟨outs', k1, k2⟩ := sx_all_mem h2 o o1
        refine g3 hI hk g1' ?_
        rw [← o2]
        exact nx _ _ _ _ _ k1 k2 W ls st' M (sx_le_rfl W) hl o4 o3 hin hfr
      · rename_i hk
        obtain ⟨r, h1, h2⟩ := Option.bind_eq_some_iff.mp h
        obtain ⟨st', M', W', g1', g2', g3, g4', g5, g6⟩ := sx_hpo hE hin hfr hs h1
        exact g4 hI hk rfl g1' (nx _ _ _ _ _ h2 (fun _ z => z) W' ls st' M' g2' (hl.mono g2') g6 g3 g4' g5)
      · rename_i hk
        split at h
        · rename_i hkd
          obtain ⟨r, h1, h2⟩ := Option.bind_eq_some_iff.mp h
          obtain ⟨st', M', W', g1', g2', g3, g4', g5, g6⟩ := sx_bio (d := d) (by have := hrm.1; omega) (by have := hrm.2; omega) hE hin hfr hs h1
          refine gx_step hI (pc' := pc + 3) (ls' := ls) (st' := st') (h' := (M', U.1.2.2.2.1)) ?_ (nx _ _ _ _ _ h2 (fun _ z => z) W' ls st' M' g2' (hl.mono g2') g6 g3 g4' g5)
          unfold rf_ex
          simp only [hk]
          rw [if_pos hkd, g1']
          rfl
        · rename_i hkd
          obtain ⟨a, h1, h2⟩ := Option.bind_eq_some_iff.mp h
          obtain ⟨as, r, g1', g2', g3⟩ := sx_cao hE hs h1
          have hex : rf_ex U.1.1 d j pc (J, aux) ls st (M, U.1.2.2.2.1) = some (.inr (.inl (a.1, as, r))) := by
            unfold rf_ex
            simp only [hk]
            rw [if_neg hkd, g1']
            rfl
          split at h2
          · rename_i hsz
            split at h2
            · rename_i p hp
              split at h2
              · rename_i hlt
                obtain ⟨outs1, k1, k2⟩ := Option.bind_eq_some_iff.mp h2
                have hb := hmu.base
                obtain ⟨r1, r2, r3⟩ := sx_room (μ' := p.2) hrm (by omega) hsz.2
                refine gx_call hI hex ⟨r1, r2, by rw [sx_argl g2']; exact hsz.1⟩ ?_
                refine ih (q.1, p.2, none, none) a.1 0 _ [] E outs1 k1 W (lv_args 0 as) [] M M0 _ _ p.2 (sx_frmo g2') trivial hE hin hfr rfl (hinl p (List.mem_of_find?_eq_some hp)) r3 (fun c hc args hlt' => hch c hc args (by omega)) (fun pc' t ht => by cases ht) ?_
                intro o ho W' v M' hw hE' hin' hfr' hov
                obtain ⟨outs', m1, m2⟩ := sx_all_mem k2 o ho
                exact nx _ _ _ _ _ m1 m2 W' ls (v.toList ++ r) M' hw (hl.mono hw) (sx_ovo hov (g3.mono hw)) hE' hin' hfr'
              · cases h2
            · obtain ⟨c, k1, k2⟩ := Option.bind_eq_some_iff.mp h2
              have hc1 := List.mem_of_find?_eq_some k1
              have hc2 := List.find?_some k1
              simp only [Bool.and_eq_true, decide_eq_true_eq, List.all_eq_true] at hc2
              obtain ⟨⟨⟨c1, c2⟩, c3⟩, c4⟩ := hc2
              have hlt := sx_mlto hE g2' hmu c3
              obtain ⟨r1, r2, r3⟩ := sx_room hrm hlt hsz.2
              refine gx_call hI hex ⟨r1, r2, by rw [sx_argl g2']; exact hsz.1⟩ ?_
              have hc := hch c hc1 as hlt M _ r3 hin (sx_pfito hE c2 g2')
              rw [c1] at hc
              refine gx_mono hc ?_
              rintro v h' ⟨M', rfl, hin', hfr', hp⟩
              obtain ⟨W', w1, w2, w3⟩ := sx_pusho (sx_kpo hE hfr') g3 hp
              exact nx _ _ _ _ _ k2 (fun _ z => z) W' ls (v.toList ++ r) M' w1 (hl.mono w1) w3 w2 hin' (sx_fr_sub hfr hfr' (fun p hp => List.elem_iff.mp (c4 p hp)))
          · cases h2
      · rename_i hk
        obtain ⟨v, h1, h2⟩ := Option.bind_eq_some_iff.mp h
        cases h2
        obtain ⟨w, g1', g2'⟩ := sx_rto hE hs h1
        refine gx_ret hI (v := w) ?_ (hout _ (List.mem_singleton_self _) W w M (sx_le_rfl W) hE hin hfr g2')
        unfold rf_ex
        simp only [hk]
        rw [g1']
        rfl
      · rename_i hk
        obtain ⟨r, h1, h2⟩ := Option.bind_eq_some_iff.mp h
        obtain ⟨st', W', g1', g2', g3, g4'⟩ := sx_poo hE hs h1
        exact g7 hI hk rfl g1' (nx _ _ _ _ _ h2 (fun _ z => z) W' ls st' M g2' (hl.mono g2') g4' g3 hin hfr)
      · cases h
end SXB
/-! all contracts hold -/
section SXC
variable {T : sxT} {U : sxU} {W W' : sxW} {E : sxE} {M M' M0 : rf_M}
theorem sx_nv_mono {sl : List (Option sxV)} {ls : rf_L} {m : sxM} {a : sxN} (hl : sx_ls W sl ls) (hr : sx_res sl m = some a) (hw : sx_le W W') : sx_nv W' a = sx_nv W a := by
  unfold sx_res at hr
  split at hr
  · cases hr; rfl
  · split at hr
    · rename_i s c hj
      split at hr
      · cases hr
        obtain ⟨v, v1, z, y, -, v2, -⟩ := hl _ _ hj
        unfold sx_nv
        dsimp only
        rw [v2, hw.1 _ _ v2]
      · cases hr
    · cases hr
  · split at hr
    · rename_i s c hj
      split at hr
      · cases hr
        obtain ⟨v, v1, z, y, -, v2, -⟩ := hl _ _ hj
        unfold sx_nv
        dsimp only
        rw [v2, hw.1 _ _ v2]
      · cases hr
    · cases hr
theorem sx_deco {sl slK : List (Option sxV)} {ls : rf_L} {K : sxK} {a b e a' b' e' : sxN} (hE : sx_e U W E M) (hl : sx_ls W sl ls) (hl' : sx_ls W' slK ls) (h : sx_dec E sl (some (a, b, e)) K = true) (h1 : sx_res slK K.2.2.1 = some a') (h2 : sx_res slK K.2.2.2.1 = some b') (h3 : sx_res slK K.2.2.2.2 = some e') : sx_lt3 (sx_nv W' a', sx_nv W' b', sx_nv W' e') (sx_nv W a, sx_nv W b, sx_nv W e) := by
  unfold sx_dec at h
  simp only [Bool.or_eq_true, Bool.and_eq_true] at h
  unfold sx_lt3
  dsimp only
  rcases h with h | ⟨h, h⟩
  · exact Or.inl (by simpa using sx_cmpo hE hl hl' h h1)
  · rename_i hle
    have q1 : sx_nv W' a' ≤ sx_nv W a := by simpa using sx_cmpo hE hl hl' hle h1
    rcases h with h | ⟨hle2, h⟩
    · exact Or.inr ⟨q1, Or.inl (by simpa using sx_cmpo hE hl hl' h h2)⟩
    · exact Or.inr ⟨q1, Or.inr ⟨by simpa using sx_cmpo hE hl hl' hle2 h2, by simpa using sx_cmpo hE hl hl' h h3⟩⟩
theorem sx_posto {post : Option sxF} {o : Option sxV × sxE} {v : Option Value} (hE : sx_e U W o.2 M) (h : sx_post post o = true) (hv : sx_ov W o.1 v) : sx_pok U post v := by
  unfold sx_post at h
  split at h
  · rename_i e
    rw [e] at hv
    cases v with
    | none => trivial
    | some w => exact hv.elim
  · rename_i f x e
    rw [e] at hv
    cases v with
    | none => exact hv.elim
    | some w => exact sx_woko hE hv h
  · cases h
theorem sx_muo {c : sxC} {args : List Value} {src : Option (sxN × sxN × sxN)} (hv : sx_vs W (sx_pe c.2.1 sx_E0).1 args) (hc : c.2.2.2.2.2.1 = 0 ∨ (sx_mcq c).isSome = true) : sx_mu (c.2.2.2.1, c.2.2.2.2.1, sx_mcq c, some (c, src)) W (sx_mv c args) := by
  unfold sx_mu
  dsimp only
  unfold sx_mv
  cases hq : sx_mcq c with
  | none =>
    rw [hq] at hc
    rcases hc with hc | hc
    · dsimp only
      rw [hc, Nat.zero_mul, Nat.add_zero]
    · cases hc
  | some m =>
    dsimp only
    unfold sx_mcq at hq
    split at hq
    · rename_i s d hp
      split at hq
      · rename_i hd
        cases hq
        obtain ⟨v, v1, z, y, rfl, v2, v3⟩ := sx_vs_get hv hp
        refine ⟨y, v2, ?_⟩
        rw [v1]
        dsimp only
        rw [v3, hd, Int.add_zero]
      · cases hq
    · cases hq
set_option maxHeartbeats 1000000 in
theorem sx_main {fuel : Nat} (hext : ∀ c ∈ T.2.2.1, ∀ args, sx_cok T U c args) (hck : sx_ck T U fuel = true) : ∀ c ∈ T.2.1, ∀ args, sx_cok T U c args := by
  unfold sx_ck at hck
  simp only [Bool.and_eq_true, List.all_eq_true, decide_eq_true_eq] at hck
  obtain ⟨hct, hinl⟩ := hck
  have key : ∀ μ, ∀ c ∈ T.2.1, ∀ args, sx_mv c args = μ → sx_cok T U c args := by
    intro μ
    induction μ using Nat.strongRecOn with
    | _ μ ihμ =>
      intro c hc args hmv M d hrm hin hfit
      have hk := hct c hc
      unfold sx_ckc at hk
      simp only [Bool.and_eq_true, List.all_eq_true, decide_eq_true_eq, Bool.or_eq_true] at hk
      obtain ⟨⟨⟨hent, hcuts⟩, hbase⟩, hcoef⟩ := hk
      obtain ⟨W0, -, hE0, hps⟩ := sx_peo (sx_e0 (U := U) M) hfit
      have hkn : (sx_pe c.2.1 sx_E0).2.2.2.2.1 = [] := (sx_pe_kn c.2.1 sx_E0).1
      have hmu : ∀ (src : Option (sxN × sxN × sxN)) (W' : sxW), sx_le W0 W' → sx_mu (c.2.2.2.1, c.2.2.2.2.1, sx_mcq c, some (c, src)) W' (sx_mv c args) := fun src W' hw => (sx_muo hps hcoef).mono hw
      have hmu1 : 1 ≤ sx_mv c args := by unfold sx_mv; omega
      have hch : ∀ c' ∈ T.2.1 ++ T.2.2.1, ∀ args', sx_mv c' args' < sx_mv c args → sx_cok T U c' args' := fun c' hc' args' hlt => (List.mem_append.mp hc').elim (fun z => ihμ _ (by omega) c' z args' rfl) (fun z => hext c' z args')
      -- the end of a walk
      have hfin : ∀ (outs : sxO), outs.all (sx_post c.2.2.1) = true → ∀ o ∈ outs, ∀ (W' : sxW) (v : Option Value) (M' : rf_M), sx_e U W' o.2 M' → sx_in U M' → sx_fr U c.2.2.2.1 M M' → sx_ov W' o.1 v → ∃ M'', (M', U.1.2.2.2.1) = (M'', U.1.2.2.2.1) ∧ sx_in U M'' ∧ sx_fr U c.2.2.2.1 M M'' ∧ sx_pok U c.2.2.1 v := by
        intro outs hall o ho W' v M' hE' hin' hfr' hov
        exact ⟨M', rfl, hin', hfr', sx_posto hE' (List.all_eq_true.mp hall o ho) hov⟩
      -- a walk that comes to a cut
      have hat : ∀ (K : sxK) (W' : sxW) (sl' : List (Option sxV)) (sst' : List sxV) (E' : sxE) (ls' : rf_L) (st' : List Value) (M' : rf_M) (src : Option (sxN × sxN × sxN)), sx_le W0 W' → sx_ls W' sl' ls' → sx_vs W' sst' st' → sx_e U W' E' M' → sx_atk c src K sl' sst' E' = true → st' = [] ∧ sx_dec E' sl' src K = true ∧ ∃ W3, sx_le W0 W3 ∧ sx_e U W3 (sx_kl (sx_pe c.2.1 sx_E0).1 K.2.1 (sx_pe c.2.1 sx_E0).2).2 M' ∧ sx_ls W3 (sx_kl (sx_pe c.2.1 sx_E0).1 K.2.1 (sx_pe c.2.1 sx_E0).2).1 ls' := by
        intro K W' sl' sst' E' ls' st' M' src hw hl' hs' hE' ha
        unfold sx_atk at ha
        simp only [Bool.and_eq_true] at ha
        obtain ⟨⟨a1, a2⟩, a3⟩ := ha
        have hst : st' = [] := by
          cases sst' with
          | nil => exact sx_nil hs'
          | cons x xs => cases a1
        obtain ⟨W3, w1, w2, w3⟩ := sx_klo hps hw hE' hl' K.2.1 0 W0 _ (sx_le_rfl W0) (sx_e_mem hE0 hkn M') a2
        refine ⟨hst, a3, W3, w1, w2, fun j x hj => ?_⟩
        obtain ⟨v, v1, v2⟩ := w3 j x hj
        exact ⟨v, by rw [Nat.zero_add] at v1; exact v1, v2⟩
      have hcut : ∀ (m : Nat × Nat × Nat), ∀ K ∈ c.2.2.2.2.2.2.2.2, ∀ (a b e : sxN), sx_res (sx_kl (sx_pe c.2.1 sx_E0).1 K.2.1 (sx_pe c.2.1 sx_E0).2).1 K.2.2.1 = some a → sx_res (sx_kl (sx_pe c.2.1 sx_E0).1 K.2.1 (sx_pe c.2.1 sx_E0).2).1 K.2.2.2.1 = some b → sx_res (sx_kl (sx_pe c.2.1 sx_E0).1 K.2.1 (sx_pe c.2.1 sx_E0).2).1 K.2.2.2.2 = some e → ∀ (W' : sxW) (ls' : rf_L) (M' : rf_M), sx_le W0 W' → sx_e U W' (sx_kl (sx_pe c.2.1 sx_E0).1 K.2.1 (sx_pe c.2.1 sx_E0).2).2 M' → sx_ls W' (sx_kl (sx_pe c.2.1 sx_E0).1 K.2.1 (sx_pe c.2.1 sx_E0).2).1 ls' → sx_in U M' → sx_fr U c.2.2.2.1 M M' → (sx_nv W' a, sx_nv W' b, sx_nv W' e) = m → gx U.1.1 d c.1 K.1 ls' [] (M', U.1.2.2.2.1) (fun v h' => ∃ M', h' = (M', U.1.2.2.2.1) ∧ sx_in U M' ∧ sx_fr U c.2.2.2.1 M M' ∧ sx_pok U c.2.2.1 v) := by
        intro m
        induction m using sx_ind3 with
        | h m ihm =>
          intro K hK a b e ha hb he W' ls' M' hw hE' hl' hin' hfr' hm
          have hkk := hcuts K hK
          unfold sx_ckk at hkk
          rw [ha, hb, he] at hkk
          dsimp only at hkk
          unfold sx_ends at hkk
          split at hkk
          · rename_i outs ho
            refine sx_goo hinl _ _ _ _ _ _ _ _ ho W' ls' [] M' M d _ (sx_mv c args) hl' trivial hE' hin' hfr' (hmu _ W' hw) hmu1 hrm hch ?_ (fun o ho' W'' v M'' hw'' hE'' hin'' hfr'' hov => hfin outs hkk o ho' W'' v M'' hE'' hin'' hfr'' hov)
            intro pc' t ht W'' sl'' sst'' E'' ls'' st'' M'' hw'' hl'' hs'' hE'' hin'' hfr'' hat'
            unfold sx_tr at ht
            dsimp only at ht
            split at ht
            · rename_i K' hK'
              cases ht
              dsimp only at hat'
              have hmem := List.mem_of_find?_eq_some hK'
              have hpc : K'.1 = pc' := by simpa using List.find?_some hK'
              obtain ⟨rfl, hdec, W3, w1, w2, w3⟩ := hat K' W'' sl'' sst'' E'' ls'' st'' M'' _ (hw.trans hw'') hl'' hs'' hE'' hat'
              have hkk' := hcuts K' hmem
              unfold sx_ckk at hkk'
              split at hkk'
              · rename_i a' b' e' ha' hb' he'
                have hlt := sx_deco hE'' hl'' w3 hdec ha' hb' he'
                rw [sx_nv_mono hl' ha hw'', sx_nv_mono hl' hb hw'', sx_nv_mono hl' he hw'', hm] at hlt
                have := ihm _ hlt K' hmem a' b' e' ha' hb' he' W3 ls'' M'' w1 w2 w3 hin'' hfr'' rfl
                rw [hpc] at this
                exact this
              · cases hkk'
            · cases ht
          · cases hkk
      unfold sx_ends at hent
      split at hent
      · rename_i outs ho
        refine sx_goo hinl _ _ _ _ _ _ _ _ ho W0 (lv_args 0 args) [] M M d _ (sx_mv c args) (sx_frmo hps) trivial hE0 hin (fun _ _ _ => ⟨rfl, rfl, rfl⟩) (hmu _ W0 (sx_le_rfl W0)) hmu1 hrm hch ?_ (fun o ho' W'' v M'' hw'' hE'' hin'' hfr'' hov => hfin outs hent o ho' W'' v M'' hE'' hin'' hfr'' hov)
        intro pc' t ht W'' sl'' sst'' E'' ls'' st'' M'' hw'' hl'' hs'' hE'' hin'' hfr'' hat'
        unfold sx_tr at ht
        dsimp only at ht
        split at ht
        · rename_i K' hK'
          cases ht
          dsimp only at hat'
          have hmem := List.mem_of_find?_eq_some hK'
          have hpc : K'.1 = pc' := by simpa using List.find?_some hK'
          obtain ⟨rfl, -, W3, w1, w2, w3⟩ := hat K' W'' sl'' sst'' E'' ls'' st'' M'' _ hw'' hl'' hs'' hE'' hat'
          have hkk' := hcuts K' hmem
          unfold sx_ckk at hkk'
          split at hkk'
          · rename_i a' b' e' ha' hb' he'
            have := hcut _ K' hmem a' b' e' ha' hb' he' W3 ls'' M'' w1 w2 w3 hin'' hfr'' rfl
            rw [hpc] at this
            exact this
          · cases hkk'
        · cases ht
      · cases hent
  exact fun c hc args => key _ c hc args rfl
end SXC
theorem sx_go_cg (T : sxT) (cx : rf_C) (G : List sxR) (rg rg' : Nat → Nat) (S S' : gS) (m m' : rf_M) (p : 0 < cx.2.2.2.2) (s : ∀ a, cx.2.2.2.2 ≤ a → a < S.2.1 → sx_sh G (rg a) (S.1 a)) (s' : ∀ a, cx.2.2.2.2 ≤ a → a < S'.2.1 → sx_sh G (rg' a) (S'.1 a)) : sx_go T ⟨(cx, G, rg, S, m), p, s⟩ = sx_go T ⟨(cx, G, rg', S', m'), p, s'⟩ := by
  funext n
  induction n with
  | zero => rfl
  | succ n ih =>
    funext q j pc sl st E
    unfold sx_go
    rw [ih]
    rfl
theorem sx_ck_cg (T : sxT) (cx : rf_C) (G : List sxR) (rg rg' : Nat → Nat) (S S' : gS) (m m' : rf_M) (p : 0 < cx.2.2.2.2) (s : ∀ a, cx.2.2.2.2 ≤ a → a < S.2.1 → sx_sh G (rg a) (S.1 a)) (s' : ∀ a, cx.2.2.2.2 ≤ a → a < S'.2.1 → sx_sh G (rg' a) (S'.1 a)) (c : sxC) (n : Nat) : sx_ckc T ⟨(cx, G, rg, S, m), p, s⟩ n c = sx_ckc T ⟨(cx, G, rg', S', m'), p, s'⟩ n c := by
  unfold sx_ckc sx_ckk
  rw [sx_go_cg T cx G rg rg' S S' m m' p s s']
def xk_G_0 : List sxR := [.inl (0, [(.inr (some (1, false))), (.inl (0, 800)), (.inr (some (2, false))), (.inl (0, 12)), (.inl ((-1), 800)), (.inr (some (16, false))), (.inr (some (22, false))), (.inr (some (3, false))), (.inr (some (44, false))), (.inr (some (51, false)))]),
  .inr (.int, 800, (.inl (0, 255))),
  .inr ((.object "MemoryTransactions$Program"), 12, (.inr (some (4, false)))),
  .inr ((.object "MemoryTransactions$Client"), 8, (.inr (some (30, false)))),
  .inl (1, [(.inl (0, 40)), (.inl (0, 60)), (.inl (0, 8)), (.inl (0, 160)), (.inl ((-1), 39)), (.inr (some (5, false))), (.inr (some (6, false))), (.inr (some (7, false))), (.inr (some (8, false))), (.inr (some (9, false))), (.inr (some (10, false))), (.inr (some (11, false))), (.inr (some (12, false))), (.inr (some (13, false))), (.inr (some (14, false))), (.inr (some (15, false)))]),
  .inr (.int, 40, (.inl (0, 19))),
  .inr (.int, 40, (.inl (0, 999999999))),
  .inr (.int, 40, (.inl (0, 160))),
  .inr (.int, 40, (.inl ((-1), 39))),
  .inr (.int, 40, (.inl (0, 1))),
  .inr (.int, 40, (.inl (0, 8))),
  .inr (.int, 40, (.inl ((-1), 39))),
  .inr (.int, 40, (.inl ((-1), 39))),
  .inr (.int, 40, (.inl ((-1), 39))),
  .inr (.int, 160, (.inl (0, 125))),
  .inr (.int, 160, (.inl (0, 999999999))),
  .inl (2, [(.inr (some (17, false))), (.inr (some (4, false))), (.inl (0, 800)), (.inl ((-1), 800)), (.inl (0, 1))]),
  .inl (3, [(.inr (some (18, false))), (.inr (some (19, false))), (.inr (some (20, false))), (.inl (0, 800)), (.inr none), (.inl (0, 800)), (.inl (0, 800))]),
  .inr (.int, 801, (.inl (0, 125))),
  .inr (.int, 801, (.inl (0, 800)))]
def xk_G_1 : List sxR := [.inr (.int, 801, (.inl (0, 999999999))),
  .inr (.int, 0, (.inl (0, 0))),
  .inl (4, [(.inr (some (23, false))), (.inr (some (24, false))), (.inl (0, 32)), (.inr (some (25, false))), (.inr (some (26, false))), (.inr (some (27, false))), (.inr (some (28, false))), (.inr none)]),
  .inr (.long, 16, (.inr none)),
  .inr (.int, 16, (.inl ((-2147483648), 2147483647))),
  .inr ((.object "MemoryTransactions$Program"), 32, (.inr (some (4, true)))),
  .inr (.int, 32, (.inl (0, 39))),
  .inr (.long, 16, (.inr none)),
  .inl (5, [(.inr (some (29, false))), (.inl (0, 60))]),
  .inr (.long, 60, (.inr none)),
  .inl (6, [(.inl (0, 3)), (.inl ((-2147483648), 2147483647)), (.inl (0, 1)), (.inr (some (31, false))), (.inr (some (33, false))), (.inl (0, 16)), (.inl ((-2147483648), 2147483647)), (.inr (some (32, false)))]),
  .inr (.int, 16, (.inl (0, 11))),
  .inr (.int, 16, (.inl ((-2147483648), 2147483647))),
  .inl (7, [(.inr (some (4, false))), (.inl (0, 300)), (.inl ((-2147483648), 2147483647)), (.inr none), (.inr (some (34, false))), (.inr (some (36, false))), (.inl ((-1), 39)), (.inr (some (35, false))), (.inr (some (22, false))), (.inr (some (28, false))), (.inr none)]),
  .inr (.int, 16, (.inl ((-2147483648), 2147483647))),
  .inr (.long, 16, (.inr none)),
  .inl (8, [(.inl ((-2147483648), 2147483647)), (.inr (some (37, false))), (.inr (some (38, false))), (.inl (0, 300)), (.inr (some (39, false))), (.inr (some (40, false))), (.inr (some (41, false))), (.inr (some (42, false))), (.inr (some (43, false)))]),
  .inr (.long, 16, (.inr none)),
  .inr (.long, 10, (.inr none)),
  .inr (.int, 300, (.inl (0, 39)))]
def xk_G_2 : List sxR := [.inr (.int, 8, (.inl ((-2147483648), 2147483647))),
  .inr (.long, 128, (.inr none)),
  .inr (.long, 80, (.inr none)),
  .inr (.int, 8, (.inl (0, 300))),
  .inl (9, [(.inl (0, 300)), (.inr (some (45, false))), (.inr (some (46, false))), (.inr (some (47, false))), (.inr (some (48, false))), (.inr (some (49, false))), (.inr (some (50, false)))]),
  .inr (.int, 300, (.inl (0, 2))),
  .inr (.int, 300, (.inl ((-1), 7))),
  .inr (.int, 300, (.inl (0, 15))),
  .inr (.int, 300, (.inl (0, 301))),
  .inr (.int, 300, (.inl ((-2147483648), 2147483647))),
  .inr (.long, 300, (.inr none)),
  .inl (10, [(.inr (some (22, false))), (.inl (0, 300)), (.inl (0, 1)), (.inr (some (2, false))), (.inr (some (33, false)))])]
def xk_G : List sxR := xk_G_0 ++ xk_G_1 ++ xk_G_2
/-- method 19 -/
def xk_c_0 : sxC := (19, [(.inr (some (17, false))), (.inr (some (1, false))), (.inl (0, 800))], none, [(17, 4), (17, 5), (17, 6), (17, 7), (18, 0), (19, 0), (20, 0)], 8, 0, 0, 0, [])
/-- method 13 -/
def xk_c_1 : sxC := (13, [(.inr (some (0, false))), (.inl ((-2147483648), 2147483647)), (.inl ((-2147483648), 2147483647)), (.inl ((-2147483648), 2147483647)), (.inl ((-2147483648), 2147483647)), (.inl ((-2147483648), 2147483647))], some (.inl ((-1), 800)), [(0, 2), (1, 0)], 2, 0, 0, 0, [])
/-- method 15 -/
def xk_c_2 : sxC := (15, [(.inr (some (0, false))), (.inl ((-2147483648), 2147483647))], some (.inl ((-1), 800)), [(0, 2)], 1, 0, 0, 0, [])
/-- method 16 -/
def xk_c_3 : sxC := (16, [(.inr (some (0, false)))], some (.inl ((-2), 11)), [(0, 2), (0, 4), (0, 5), (4, 1), (4, 2), (4, 3), (4, 4), (4, 5), (5, 0), (6, 0), (7, 0), (8, 0), (9, 0), (10, 0), (11, 0), (12, 0), (13, 0), (14, 0), (15, 0), (16, 2), (16, 3), (16, 4), (16, 5), (17, 4), (17, 5), (17, 6), (17, 7), (18, 0), (19, 0), (20, 0)], 77, 0, 0, 0, [])
/-- method 56 -/
def xk_c_4 : sxC := (56, [(.inr (some (0, false)))], some (.inl ((-1), 800)), [], 1, 0, 0, 0, [])
/-- method 57 -/
def xk_c_5 : sxC := (57, [(.inr (some (0, false))), (.inl ((-2147483648), 2147483647)), (.inl ((-2147483648), 2147483647))], some (.inl ((-1), 60)), [], 2, 0, 0, 0, [])
/-- method 59 -/
def xk_c_6 : sxC := (59, [(.inr (some (0, false))), (.inl ((-2147483648), 2147483647)), (.inr none)], some (.inl ((-2147483648), 2147483647)), [(22, 8), (23, 0), (24, 0), (27, 0), (28, 2), (29, 0), (44, 1), (45, 0), (46, 0), (47, 0), (48, 0), (49, 0), (50, 0)], 6, 0, 0, 0, [])
/-- method 79 -/
def xk_c_7 : sxC := (79, [(.inr (some (0, false))), (.inl ((-2147483648), 2147483647))], some (.inr none), [], 2, 0, 0, 0, [])
/-- method 80 -/
def xk_c_8 : sxC := (80, [(.inr (some (0, false))), (.inl ((-2147483648), 2147483647))], some (.inl ((-2147483648), 2147483647)), [], 2, 0, 0, 0, [])
/-- method 81 -/
def xk_c_9 : sxC := (81, [(.inr (some (0, false))), (.inl ((-2147483648), 2147483647)), (.inl ((-2147483648), 2147483647))], some (.inl ((-1), 16)), [(30, 1), (30, 6), (31, 0)], 2, 0, 0, 0, [])
/-- method 84 -/
def xk_c_10 : sxC := (84, [(.inr (some (0, false))), (.inl ((-2147483648), 2147483647))], some (.inl ((-1), 6)), [(22, 3), (22, 8), (23, 0), (24, 0), (25, 0), (26, 0), (27, 0), (28, 2), (29, 0), (30, 1), (30, 2), (30, 3), (30, 6), (30, 7), (31, 0), (32, 0), (33, 1), (33, 2), (33, 3), (33, 4), (33, 7), (33, 11), (34, 0), (35, 0), (36, 1), (36, 4), (37, 0), (38, 0), (39, 0), (40, 0), (41, 0), (42, 0), (43, 0), (44, 1), (45, 0), (46, 0), (47, 0), (48, 0), (49, 0), (50, 0)], 8, 0, 0, 0, [])
/-- method 108 -/
def xk_c_11 : sxC := (108, [(.inr (some (0, false))), (.inr none), (.inl ((-2147483648), 2147483647))], some (.inl ((-2147483648), 2147483647)), [(22, 3), (22, 8), (23, 0), (24, 0), (25, 0), (26, 0), (27, 0), (28, 2), (29, 0), (30, 1), (30, 2), (30, 3), (30, 6), (30, 7), (31, 0), (32, 0), (33, 1), (33, 2), (33, 3), (33, 4), (33, 7), (33, 11), (34, 0), (35, 0), (36, 1), (36, 4), (37, 0), (38, 0), (39, 0), (40, 0), (41, 0), (42, 0), (43, 0), (44, 1), (45, 0), (46, 0), (47, 0), (48, 0), (49, 0), (50, 0)], 8, 0, 0, 0, [(22, [some (.inl 0), some (.inl 1), none, some (.inl 2), some (.inr (.inr none)), none, some (.inr (.inl ((-2147483648), 2147483647))), some (.inr (.inl (0, 2147483647)))], .inl 1, .inr (.inl (7, 2147483647)), .inl 0)])
/-- method 109 -/
def xk_c_12 : sxC := (109, [(.inr (some (0, false))), (.inl ((-2147483648), 2147483647)), (.inl ((-2147483648), 2147483647))], some (.inl ((-2147483648), 2147483647)), [], 2, 0, 0, 0, [])
/-- method 111 -/
def xk_c_13 : sxC := (111, [(.inr (some (0, false))), (.inl ((-2147483648), 2147483647)), (.inl ((-2147483648), 2147483647))], some (.inr none), [], 3, 0, 0, 0, [])
/-- method 112 -/
def xk_c_14 : sxC := (112, [(.inr (some (0, false)))], some (.inl (0, 32)), [], 1, 0, 0, 0, [])
/-- method 113 -/
def xk_c_15 : sxC := (113, [(.inr (some (0, false)))], some (.inl (0, 300)), [], 1, 0, 0, 0, [])
/-- method 114 -/
def xk_c_16 : sxC := (114, [(.inr (some (0, false))), (.inl ((-2147483648), 2147483647)), (.inl ((-2147483648), 2147483647))], some (.inl ((-2147483648), 2147483647)), [], 3, 0, 0, 0, [])
/-- method 117 -/
def xk_c_17 : sxC := (117, [(.inr (some (0, false))), (.inl ((-2147483648), 2147483647))], some (.inr none), [], 2, 0, 0, 0, [])
/-- method 118 -/
def xk_c_18 : sxC := (118, [(.inr (some (0, false)))], some (.inl (0, 1)), [(22, 3), (22, 8), (23, 0), (24, 0), (25, 0), (26, 0), (27, 0), (28, 2), (29, 0), (33, 1), (33, 2), (33, 3), (33, 4), (33, 7), (33, 11), (34, 0), (35, 0), (36, 1), (36, 4), (37, 0), (38, 0), (39, 0), (40, 0), (41, 0), (42, 0), (43, 0), (51, 2), (51, 3)], 8, 0, 0, 0, [(8, [some (.inl 0), some (.inr (.inl (0, 300)))], .inl 1, .inr (.inl (1, 300)), .inl 0)])
/-- method 122 -/
def xk_c_19 : sxC := (122, [(.inr (some (0, false)))], some (.inl (0, 300)), [(0, 5), (22, 3), (23, 0), (24, 0), (30, 1), (30, 2), (30, 3), (30, 6), (44, 1), (51, 2), (51, 3)], 4, 0, 0, 0, [(32, [some (.inl 0), some (.inr (.inl (0, 300))), some (.inr (.inl (0, 8)))], .inl 1, .inr (.inl (2, 8)), .inl 0)])
/-- method 14 -/
def xk_c_20 : sxC := (14, [(.inr (some (0, false))), (.inl ((-2147483648), 2147483647))], none, [(0, 2), (1, 0)], 1, 0, 0, 0, [(3, [some (.inl 0), some (.inl 1), some (.inr (.inl ((-2147483648), 24)))], .inl 1, .inr (.inr (2, (-2147483648))), .inl 0)])
/-- method 17 -/
def xk_c_21 : sxC := (17, [(.inr (some (16, false))), (.inr (some (1, false))), (.inl (0, 800)), (.inr (some (4, false)))], some (.inl ((-1), 800)), [(4, 1), (4, 2), (4, 3), (4, 4), (4, 5), (5, 0), (6, 0), (7, 0), (8, 0), (9, 0), (10, 0), (11, 0), (12, 0), (13, 0), (14, 0), (15, 0), (16, 2), (16, 3), (16, 4), (16, 5), (17, 4), (17, 5), (17, 6), (17, 7), (18, 0), (19, 0), (20, 0)], 76, 0, 0, 0, [])
/-- method 61 -/
def xk_c_22 : sxC := (61, [(.inr (some (22, false))), (.inl (0, 15)), (.inr none)], some (.inl (0, 1)), [(22, 8), (27, 0), (28, 2), (29, 0)], 5, 0, 0, 0, [])
/-- method 85 -/
def xk_c_23 : sxC := (85, [(.inr (some (0, false))), (.inl (0, 7))], some (.inl ((-1), 6)), [(22, 3), (22, 8), (23, 0), (24, 0), (25, 0), (26, 0), (27, 0), (28, 2), (29, 0), (30, 1), (30, 2), (30, 3), (30, 6), (30, 7), (31, 0), (32, 0), (33, 1), (33, 2), (33, 3), (33, 4), (33, 7), (33, 11), (34, 0), (35, 0), (36, 1), (36, 4), (37, 0), (38, 0), (39, 0), (40, 0), (41, 0), (42, 0), (43, 0), (44, 1), (45, 0), (46, 0), (47, 0), (48, 0), (49, 0), (50, 0)], 7, 0, 0, 0, [])
/-- method 110 -/
def xk_c_24 : sxC := (110, [(.inr (some (30, false))), (.inl ((-2147483648), 2147483647))], some (.inl ((-2147483648), 2147483647)), [], 1, 0, 0, 0, [])
/-- method 121 -/
def xk_c_25 : sxC := (121, [(.inr (some (22, false))), (.inr (some (22, false)))], some (.inl (0, 1)), [], 1, 0, 0, 0, [(15, [some (.inl 0), some (.inl 1), some (.inr (.inl (0, 16)))], .inl 2, .inr (.inl (2, 16)), .inl 0),
  (62, [some (.inl 0), some (.inl 1), some (.inr (.inl (0, 32)))], .inl 1, .inr (.inl (2, 32)), .inl 0)])
/-- method 123 -/
def xk_c_26 : sxC := (123, [(.inr (some (22, false)))], none, [(22, 3), (23, 0), (24, 0)], 2, 0, 0, 0, [])
/-- method 35 -/
def xk_c_27 : sxC := (35, [(.inr (some (16, false))), (.inl ((-1), 39)), (.inl (0, 1)), (.inl (0, 8))], some (.inl ((-1), 39)), [(4, 1), (4, 2), (4, 3), (4, 4), (5, 0), (6, 0), (7, 0), (8, 0), (9, 0), (10, 0), (11, 0), (12, 0), (13, 0), (14, 0), (15, 0), (16, 3), (16, 4), (16, 5)], 43, 4, 3, 8, [(9, [some (.inl 0), some (.inl 1), some (.inl 2), some (.inl 3), some (.inr (.inl ((-1), 39))), some (.inr (.inl ((-1), 39))), some (.inr (.inl (0, 41))), none], .inl 1, .inr (.inl (6, 41)), .inl 0)])
/-- method 62 -/
def xk_c_28 : sxC := (62, [(.inr (some (22, false)))], some (.inl (0, 1)), [(22, 8), (28, 2), (29, 0)], 4, 0, 0, 0, [(2, [some (.inl 0), some (.inr (.inl (0, 32)))], .inl 1, .inr (.inl (1, 32)), .inl 0)])
/-- method 89 -/
def xk_c_29 : sxC := (89, [(.inr (some (23, false))), (.inr none)], none, [(23, 0)], 1, 0, 0, 0, [(6, [some (.inl 0), some (.inl 1), none, some (.inr (.inl (0, 16))), some (.inr (.inl (16, 16)))], .inl 1, .inr (.inl (3, 16)), .inl 0)])
/-- method 38 -/
def xk_c_30 : sxC := (38, [(.inr (some (16, false))), (.inl ((-1), 39)), (.inl (0, 1)), (.inl (0, 8))], some (.inl ((-1), 39)), [(4, 1), (4, 2), (4, 3), (4, 4), (5, 0), (6, 0), (7, 0), (8, 0), (9, 0), (10, 0), (11, 0), (12, 0), (13, 0), (14, 0), (15, 0), (16, 3), (16, 4), (16, 5)], 42, 4, 3, 8, [])
/-- method 45 -/
def xk_c_31 : sxC := (45, [(.inr (some (16, false))), (.inl (0, 125))], none, [(16, 3), (16, 4)], 2, 0, 0, 0, [])
/-- method 41 -/
def xk_c_32 : sxC := (41, [(.inr (some (4, false))), (.inl (1, 19)), (.inl ((-1), 39)), (.inl (0, 1)), (.inl (0, 8))], some (.inl ((-1), 39)), [(4, 1), (5, 0), (6, 0), (7, 0), (8, 0), (9, 0), (10, 0), (11, 0), (12, 0), (13, 0)], 1, 0, 0, 0, [])
/-- method 78 -/
def xk_c_33 : sxC := (78, [(.inr (some (44, false))), (.inl (0, 2)), (.inl ((-1), 7)), (.inl (0, 15)), (.inl (0, 301)), (.inl ((-2147483648), 2147483647)), (.inr none)], none, [(44, 1), (45, 0), (46, 0), (47, 0), (48, 0), (49, 0), (50, 0)], 2, 0, 0, 0, [])
/-- method 53 -/
def xk_c_34 : sxC := (53, [(.inr (some (16, false))), (.inl (1, 19)), (.inl (0, 39)), (.inl (0, 8))], none, [(4, 1), (4, 2), (4, 3), (4, 4), (5, 0), (6, 0), (7, 0), (8, 0), (9, 0), (10, 0), (11, 0), (12, 0), (13, 0), (14, 0), (15, 0), (16, 3), (16, 4), (16, 5)], 41, 4, 3, 8, [])
/-- method 46 -/
def xk_c_35 : sxC := (46, [(.inr (some (16, false)))], none, [(4, 2), (4, 4), (14, 0), (15, 0), (16, 3), (16, 4)], 39, 0, 0, 0, [])
/-- method 119 -/
def xk_c_36 : sxC := (119, [(.inr (some (51, false))), (.inr (some (44, false))), (.inl (0, 299))], none, [(22, 3), (22, 8), (23, 0), (24, 0), (25, 0), (26, 0), (27, 0), (28, 2), (29, 0), (33, 1), (33, 2), (33, 3), (33, 4), (33, 7), (33, 11), (34, 0), (35, 0), (36, 1), (36, 4), (37, 0), (38, 0), (39, 0), (40, 0), (41, 0), (42, 0), (43, 0), (51, 2), (51, 3)], 7, 0, 0, 0, [(118, [some (.inl 0), some (.inl 1), some (.inl 2), some (.inr (.inl (0, 11))), some (.inr (.inl (0, 4))), some (.inr (.inl (0, 301)))], .inl 1, .inr (.inl (5, 301)), .inl 0)])
/-- method 87 -/
def xk_c_37 : sxC := (87, [(.inr (some (33, false))), (.inr (some (4, false)))], none, [(33, 1), (33, 2), (33, 3), (33, 4), (33, 7), (36, 1), (36, 4), (38, 0)], 3, 0, 0, 0, [])
/-- method 47 -/
def xk_c_38 : sxC := (47, [(.inr (some (16, false))), (.inl (0, 8))], none, [(4, 2), (4, 4), (14, 0), (15, 0), (16, 3), (16, 4)], 6, 4, 1, 8, [])
/-- method 54 -/
def xk_c_39 : sxC := (54, [(.inr (some (16, false))), (.inl (0, 39)), (.inl (0, 1)), (.inl (0, 8))], some (.inl ((-1), 39)), [(4, 1), (4, 2), (4, 3), (4, 4), (5, 0), (6, 0), (7, 0), (8, 0), (9, 0), (10, 0), (11, 0), (12, 0), (13, 0), (14, 0), (15, 0), (16, 3), (16, 4), (16, 5)], 40, 4, 3, 8, [])
/-- method 88 -/
def xk_c_40 : sxC := (88, [(.inr (some (36, false)))], none, [(36, 1), (36, 4), (38, 0)], 2, 0, 0, 0, [])
/-- method 48 -/
def xk_c_41 : sxC := (48, [(.inr (some (16, false))), (.inl (0, 8))], none, [(4, 2), (4, 4), (14, 0), (15, 0), (16, 3), (16, 4)], 5, 4, 1, 8, [(7, [some (.inl 0), some (.inl 1), some (.inr (.inl (0, 60))), none], .inl 1, .inr (.inl (2, 60)), .inl 0)])
/-- method 55 -/
def xk_c_42 : sxC := (55, [(.inr (some (16, false)))], some (.inl (16, 999999999)), [(16, 3), (16, 4)], 2, 0, 0, 0, [])
/-- method 89 -/
def xk_c_43 : sxC := (89, [(.inr (some (38, false))), (.inr none)], none, [(38, 0)], 1, 0, 0, 0, [(6, [some (.inl 0), some (.inl 1), none, some (.inr (.inl (0, 10))), some (.inr (.inl (10, 10)))], .inl 1, .inr (.inl (3, 10)), .inl 0)])
/-- method 49 -/
def xk_c_44 : sxC := (49, [(.inr (some (16, false))), (.inl (0, 8))], none, [(4, 2), (4, 4), (14, 0), (15, 0), (16, 3), (16, 4)], 4, 4, 1, 8, [(7, [some (.inl 0), some (.inl 1), some (.inr (.inl (0, 60))), none], .inl 1, .inr (.inl (2, 60)), .inl 0)])
/-- method 50 -/
def xk_c_45 : sxC := (50, [(.inr (some (16, false))), (.inl (0, 8))], none, [(4, 2), (4, 4), (14, 0), (15, 0), (16, 3), (16, 4)], 3, 4, 1, 8, [])
/-- method 124 -/
def xk_c_46 : sxC := (124, [(.inr (some (24, false))), (.inl (0, 0))], none, [(24, 0)], 1, 0, 0, 0, [(5, [some (.inl 0), some (.inl 1), some (.inr (.inl (0, 16))), some (.inr (.inl (16, 16)))], .inl 1, .inr (.inl (2, 16)), .inl 0)])
/-- method 90 -/
def xk_c_47 : sxC := (90, [(.inr (some (33, false)))], some (.inl (0, 4)), [(28, 2), (29, 0), (33, 2), (33, 3), (33, 4), (33, 7), (33, 11), (34, 0), (35, 0), (36, 1), (36, 4), (37, 0), (38, 0), (39, 0), (40, 0), (41, 0), (42, 0), (43, 0)], 6, 0, 0, 0, [])
/-- method 70 -/
def xk_c_48 : sxC := (70, [(.inr (some (33, false))), (.inl (0, 999999999))], some (.inr none), [], 2, 0, 0, 0, [])
/-- method 65 -/
def xk_c_49 : sxC := (65, [(.inr (some (28, false))), (.inr (some (4, false))), (.inl (0, 160)), (.inr (some (33, false)))], some (.inl (0, 2)), [(28, 2), (29, 0), (33, 3), (33, 11), (34, 0), (35, 0)], 4, 0, 0, 0, [(8, [some (.inl 0), some (.inl 1), some (.inl 2), some (.inl 3), some (.inr (.inl (0, 160))), none, none, none, none, none], .inl 1, .inr (.inl (4, 160)), .inl 0)])
/-- method 96 -/
def xk_c_50 : sxC := (96, [(.inr (some (4, false))), (.inl (0, 39)), (.inl (15, 17))], some (.inl ((-1), 39)), [], 2, 0, 0, 0, [(5, [some (.inl 0), some (.inl 1), some (.inl 2), some (.inr (.inl ((-1), 39))), some (.inr (.inl (0, 9))), none], .inl 1, .inr (.inl (4, 9)), .inl 0)])
/-- method 92 -/
def xk_c_51 : sxC := (92, [(.inr (some (4, false))), (.inl (0, 39)), (.inl ((-1), 39))], some (.inl ((-1), 39)), [], 3, 0, 0, 0, [])
/-- method 93 -/
def xk_c_52 : sxC := (93, [(.inr (some (4, false))), (.inl (0, 39))], some (.inl ((-1), 39)), [], 2, 0, 0, 0, [(4, [some (.inl 0), some (.inl 1), some (.inr (.inl ((-1), 39))), some (.inr (.inl (0, 9)))], .inl 1, .inr (.inl (3, 9)), .inl 0)])
/-- method 71 -/
def xk_c_53 : sxC := (71, [(.inr (some (33, false)))], some (.inl (0, 1)), [], 2, 0, 0, 0, [])
/-- method 75 -/
def xk_c_54 : sxC := (75, [(.inl (4, 125)), (.inr none), (.inr none)], some (.inr none), [], 1, 0, 0, 0, [])
/-- method 67 -/
def xk_c_55 : sxC := (67, [(.inr (some (33, false))), (.inl (0, 999999999))], some (.inl (0, 1)), [(33, 3), (33, 11), (34, 0), (35, 0)], 3, 0, 0, 0, [])
/-- method 72 -/
def xk_c_56 : sxC := (72, [(.inr (some (22, false))), (.inl ((-2147483648), 2147483647)), (.inr (some (34, false)))], some (.inl (0, 1)), [], 1, 0, 0, 0, [(2, [some (.inl 0), some (.inl 1), some (.inl 2), some (.inr (.inl (0, 16)))], .inl 1, .inr (.inl (3, 16)), .inl 0)])
/-- method 125 -/
def xk_c_57 : sxC := (125, [(.inr (some (51, false)))], none, [(22, 3), (23, 0), (24, 0), (51, 2), (51, 3)], 3, 0, 0, 0, [])
/-- method 103 -/
def xk_c_58 : sxC := (103, [(.inr (some (0, false))), (.inl (0, 7))], some (.inl (0, 1)), [], 1, 0, 0, 0, [(16, [some (.inl 0), some (.inl 1), some (.inr (.inl (0, 8)))], .inl 1, .inr (.inl (2, 8)), .inl 0)])
/-- method 86 -/
def xk_c_59 : sxC := (86, [(.inr (some (30, false))), (.inr (some (22, false)))], some (.inl (0, 1)), [], 2, 0, 0, 0, [])
/-- method 104 -/
def xk_c_60 : sxC := (104, [(.inr (some (0, false))), (.inl (0, 7)), (.inl (1, 3))], some (.inl (1, 2)), [(22, 3), (22, 8), (23, 0), (24, 0), (25, 0), (26, 0), (27, 0), (28, 2), (29, 0), (30, 1), (30, 2), (30, 3), (30, 6), (31, 0), (33, 4), (44, 1), (45, 0), (46, 0), (47, 0), (48, 0), (49, 0), (50, 0)], 6, 0, 0, 0, [])
/-- method 72 -/
def xk_c_61 : sxC := (72, [(.inr (some (22, false))), (.inl ((-2147483648), 2147483647)), (.inr (some (32, false)))], some (.inl (0, 1)), [], 1, 0, 0, 0, [(2, [some (.inl 0), some (.inl 1), some (.inl 2), some (.inr (.inl (0, 16)))], .inl 1, .inr (.inl (3, 16)), .inl 0)])
/-- method 105 -/
def xk_c_62 : sxC := (105, [(.inr (some (22, false))), (.inr (some (4, false))), (.inr (some (36, false)))], some (.inl (0, 1)), [(22, 3), (22, 8), (23, 0), (24, 0), (25, 0), (26, 0), (27, 0), (28, 2), (29, 0)], 5, 0, 0, 0, [(17, [some (.inl 0), some (.inl 1), some (.inl 2), some (.inr (.inl (0, 16)))], .inl 4, .inr (.inl (3, 16)), .inl 0),
  (74, [some (.inl 0), some (.inl 1), some (.inl 2), some (.inr (.inl (0, 300)))], .inl 3, .inr (.inl (3, 300)), .inl 0),
  (106, [some (.inl 0), some (.inl 1), some (.inl 2), some (.inr (.inl (0, 16)))], .inl 2, .inr (.inl (3, 16)), .inl 0),
  (139, [some (.inl 0), some (.inl 1), some (.inl 2), some (.inr (.inl (0, 300)))], .inl 1, .inr (.inl (3, 300)), .inl 0)])
/-- method 63 -/
def xk_c_63 : sxC := (63, [(.inr (some (22, false))), (.inr (some (4, true))), (.inl (0, 39))], some (.inl (0, 1)), [(22, 8), (28, 2), (29, 0)], 3, 0, 0, 0, [])
/-- method 65 -/
def xk_c_64 : sxC := (65, [(.inr (some (28, false))), (.inr (some (4, false))), (.inl (0, 160)), (.inr (some (22, false)))], some (.inl (0, 2)), [(22, 8), (28, 2), (29, 0)], 2, 0, 0, 0, [(8, [some (.inl 0), some (.inl 1), some (.inl 2), some (.inl 3), some (.inr (.inl (0, 160))), none, none, none, none, none], .inl 1, .inr (.inl (4, 160)), .inl 0)])
def xk_T : sxT := ([(18, 1), (36, 1), (37, 1), (39, 1), (40, 1), (42, 1), (43, 1), (44, 1), (51, 1), (52, 1), (58, 1), (60, 1), (64, 1), (66, 1), (68, 1), (69, 1), (73, 1), (74, 1), (76, 1), (77, 2), (82, 1), (83, 1), (91, 1), (94, 1), (95, 4), (97, 1), (98, 5), (99, 4), (100, 2), (101, 1), (102, 1), (106, 2), (107, 1), (115, 2), (116, 1), (120, 1), (126, 2)], [xk_c_1, xk_c_2, xk_c_3, xk_c_4, xk_c_5, xk_c_6, xk_c_7, xk_c_8, xk_c_9, xk_c_10, xk_c_11, xk_c_12, xk_c_13, xk_c_14, xk_c_15, xk_c_16, xk_c_17, xk_c_18, xk_c_19, xk_c_20, xk_c_21, xk_c_22, xk_c_23, xk_c_24, xk_c_25, xk_c_26, xk_c_27, xk_c_28, xk_c_29, xk_c_30, xk_c_31, xk_c_32, xk_c_33, xk_c_34, xk_c_35, xk_c_36, xk_c_37, xk_c_38, xk_c_39, xk_c_40, xk_c_41, xk_c_42, xk_c_43, xk_c_44, xk_c_45, xk_c_46, xk_c_47, xk_c_48, xk_c_49, xk_c_50, xk_c_51, xk_c_52, xk_c_53, xk_c_54, xk_c_55, xk_c_56, xk_c_57, xk_c_58, xk_c_59, xk_c_60, xk_c_61, xk_c_62, xk_c_63, xk_c_64], [xk_c_0], 29)
def xk_rgL : List Nat := [0, 1, 2, 4, 5, 6, 7, 8, 9, 10, 11, 12, 13, 14, 15, 4, 5, 6, 7, 8, 9, 10, 11, 12, 13, 14, 15, 4, 5, 6, 7, 8, 9, 10, 11, 12, 13, 14, 15, 4, 5, 6, 7, 8, 9, 10, 11, 12, 13, 14, 15, 4, 5, 6, 7, 8, 9, 10, 11, 12, 13, 14, 15, 4, 5, 6, 7, 8, 9, 10, 11, 12, 13, 14, 15, 4, 5, 6, 7, 8, 9, 10, 11, 12, 13, 14, 15, 4, 5, 6, 7, 8, 9, 10, 11, 12, 13, 14, 15, 4, 5, 6, 7, 8, 9, 10, 11, 12, 13, 14, 15, 4, 5, 6, 7, 8, 9, 10, 11, 12, 13, 14, 15, 4, 5, 6, 7, 8, 9, 10, 11, 12, 13, 14, 15, 4, 5, 6, 7, 8, 9, 10, 11, 12, 13, 14, 15, 16, 17, 18, 19, 20, 21, 4, 5, 6, 7, 8, 9, 10, 11, 12, 13, 14, 15, 22, 23, 24, 25, 26, 27, 28, 29, 3, 30, 31, 32, 33, 34, 36, 37, 38, 39, 40, 41, 42, 43, 35, 28, 29, 30, 31, 32, 33, 34, 36, 37, 38, 39, 40, 41, 42, 43, 35, 28, 29, 30, 31, 32, 33, 34, 36, 37, 38, 39, 40, 41, 42, 43, 35, 28, 29, 30, 31, 32, 33, 34, 36, 37, 38, 39, 40, 41, 42, 43, 35, 28, 29, 30, 31, 32, 33, 34, 36, 37, 38, 39, 40, 41, 42, 43, 35, 28, 29, 30, 31, 32, 33, 34, 36, 37, 38, 39, 40, 41, 42, 43, 35, 28, 29, 30, 31, 32, 33, 34, 36, 37, 38, 39, 40, 41, 42, 43, 35, 28, 29, 30, 31, 32, 33, 34, 36, 37, 38, 39, 40, 41, 42, 43, 35, 28, 29, 44, 45, 46, 47, 48, 49, 50, 51, 22, 23, 24, 25, 26, 27, 28, 29, 33, 34, 36, 37, 38, 39, 40, 41, 42, 43, 35, 28, 29, 999, 999, 999, 999, 999, 999, 999, 999, 999, 999, 999, 999, 999, 999, 999, 999, 999, 999, 999, 999, 999, 999, 999, 999, 999, 999, 999, 999, 999, 999, 999, 999, 999, 999, 999, 999, 999, 999, 999, 999, 999, 999, 999, 999, 999, 999, 999, 999, 999, 999, 999, 999, 999]
def xk_rg (a : Nat) : Nat := xk_rgL.getD (a - 22) 999
