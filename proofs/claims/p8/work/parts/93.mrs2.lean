def y_pre (T : tK) (kind : Int) (s : pS) : pS := if kind = 20 then p_ex T 61 s else if kind = 0 ∨ kind = 2 then p_ex T 40 s else s
section YD
variable {M M' M0 : rf_M} {T : tK} {i r e x0 : Nat} {s : pS} {ks : List (Int × Int)} {ex : Nat → Prop} {K : rf_M → Prop}
theorem p_ex_ir {t : Int32} : (p_ex T t s).2.1 = s.2.1 := by
  unfold p_ex
  split
  · unfold p_adv; rfl
  · rfl
theorem p_loop_ir {c : pS → Bool} {g : pS → pS} (hg : ∀ s, (g s).2.1 = s.2.1) : ∀ (f : Nat) (s : pS), (p_loop c g f s).2.1 = s.2.1
  | 0, s => rfl
  | f + 1, s => by
    show (if c s = true then p_loop c g f (g s) else s).2.1 = s.2.1
    split
    · rw [p_loop_ir hg f, hg]
    · rfl
theorem p_adv_ir : (p_adv T s).2.1 = s.2.1 := rfl
theorem p_expr_ir {U : pS → pS} (hU : ∀ s, (U s).2.1 = s.2.1) (s : pS) : (p_expr T U s).2.1 = s.2.1 := by
  have hp : ∀ s, (p_prod T U s).2.1 = s.2.1 := fun s => by
    unfold p_prod
    rw [p_loop_ir (fun s => by rw [hU, p_adv_ir])]; exact hU s
  have hs : ∀ s, (p_sum T U s).2.1 = s.2.1 := fun s => by
    unfold p_sum
    rw [p_loop_ir (fun s => by rw [hp, p_adv_ir])]; exact hp s
  unfold p_expr
  split
  · rw [hs, p_adv_ir, hs]
  · exact hs s
theorem p_un_ir : ∀ (f : Nat) (s : pS), (p_un T f s).2.1 = s.2.1
  | 0, s => by
    unfold p_un
    split
    · rfl
    · split
      · rfl
      · split
        · rfl
        · rfl
  | f + 1, s => by
    unfold p_un
    split
    · rfl
    · split
      · rfl
      · split
        · rfl
        · split
          · rw [p_un_ir f]; rfl
          · split
            · rw [p_ex_ir, p_expr_ir (p_un_ir f)]; rfl
            · rfl
theorem p_exq_ir (s : pS) : (p_exq T s).2.1 = s.2.1 := p_expr_ir (p_un_ir 8) s
theorem p_ir_id {b : Bool} (h : s.2.1 = b) : p_ir b s = s := by
  obtain ⟨i, b0, n⟩ := s
  cases h
  rfl
theorem p_ir_ex {t : Int32} {b : Bool} : p_ir b (p_ex T t s) = p_ex T t (p_ir b s) := by
  unfold p_ex
  have : p_is T t (p_ir b s) = p_is T t s := rfl
  rw [this]
  split <;> rfl
theorem y_all {k : Int32} (hk : p_beg k = true) (hs : s.2.1 = false) : y_res T (if k.toInt = 1 then 20 else k.toInt - 10) (y_231 T (if k.toInt = 1 then 20 else k.toInt - 10) (y_167 T (if k.toInt = 1 then 20 else k.toInt - 10) (y_pre T (if k.toInt = 1 then 20 else k.toInt - 10) s))) ks = (if k.toInt = 1 ∨ k.toInt = 13 ∨ k.toInt = 14 ∨ k.toInt = 19 then (p_st1 T id k s, ks) else y_open T (k.toInt, 0) (p_if T k s) ks) := by
  have hk' : k.toInt = 1 ∨ k.toInt = 10 ∨ k.toInt = 12 ∨ k.toInt = 13 ∨ k.toInt = 14 ∨ k.toInt = 15 ∨ k.toInt = 17 ∨ k.toInt = 19 := by
    unfold p_beg at hk
    simpa using hk
  have e61 : (p_ex T 61 s).2.1 = false := p_ex_ir.trans hs
  have e40 : (p_ex T 40 s).2.1 = false := p_ex_ir.trans hs
  have tr : ∀ {t : pS}, t.2.1 = false → p_ir false (p_exq T (p_ir false t)) = p_exq T t := fun {t} h => by
    rw [p_ir_id h, p_ir_id ((p_exq_ir t).trans h)]
  rcases hk' with z | z | z | z | z | z | z | z
  · have ek : k = 1 := i32_eq.mpr z
    subst ek
    show (p_ex T 59 (p_ir false (p_exq T (p_ir false (p_ex T 61 s)))), ks) = (p_cl T (p_ex T 61 s), ks)
    rw [tr e61]; rfl
  · have ek : k = 10 := i32_eq.mpr z
    subst ek
    show y_open T (10, 0) (p_ex T 41 (p_ir false (p_exq T (p_ir false (p_ex T 40 s))))) ks = y_open T (10, 0) (p_ex T 41 (p_exq T (p_ex T 40 s))) ks
    rw [tr e40]
  · have ek : k = 12 := i32_eq.mpr z
    subst ek
    show y_open T (12, 0) (p_ex T 41 (p_ir false (p_exq T (p_ir false (p_ex T 40 s))))) ks = y_open T (12, 0) (p_ex T 41 (p_exq T (p_ex T 40 s))) ks
    rw [tr e40]
  · have ek : k = 13 := i32_eq.mpr z
    subst ek
    rfl
  · have ek : k = 14 := i32_eq.mpr z
    subst ek
    show (p_ex T 59 (p_ir false (p_exq T (p_ir false s))), ks) = (p_cl T s, ks)
    rw [tr hs]; rfl
  · have ek : k = 15 := i32_eq.mpr z
    subst ek
    rfl
  · have ek : k = 17 := i32_eq.mpr z
    subst ek
    rfl
  · have ek : k = 19 := i32_eq.mpr z
    subst ek
    show (p_ex T 59 (p_ir false (p_exq T (p_ir true s))), ks) = (p_ir false (p_ex T 59 (p_exq T (p_ir true s))), ks)
    rw [p_ir_ex]
theorem yq.up {e' : Nat} (h : yq T r M0 M s ks ex e) (h1 : e ≤ e') (h2 : e' ≤ s.2.2.1) : yq T r M0 M s ks ex e' := by
  obtain ⟨a, b, c', ⟨c, d1, d2, d3⟩, f, g, g', h8⟩ := h
  exact ⟨a, b, c', ⟨c, d1, by omega, d3⟩, f, g, g', h2⟩
theorem y_chain_bad {kind : Int} (h : s.2.2.2.2.2 = false) : (y_res T kind (y_231 T kind (y_167 T kind s)) ks).1.2.2.2.2.2 = false := by
  refine y_res_bad ?_
  have h1 : (y_167 T kind s).2.2.2.2.2 = false := by
    unfold y_167
    split
    · exact h
    · split
      · exact p_exq_bad (s := p_ir true s) h
      · exact p_exq_bad (s := p_ir false s) h
  unfold y_231
  split
  · exact p_ex_bad h1
  · exact h1
/-- a statement's head is there: take, and on -/
theorem s_rsPre {kind v1 : Int} (hT : ∀ i, (kd T i).toInt = 1 → 0 ≤ (nb T i).toInt) (h : yq T r M0 M s ks (fun x => x = x0) e) (he : e + 1 = s.2.2.1) (hk : gi M 360 x0 = kind) (hk8 : kk8 kind) (hv1 : (kind = 20 ∧ inr v1) ∨ (v1 = kind)) (h1 : 40 * r ≤ x0) (h2 : x0 < 40 * r + s.2.2.1) (hl : kind = 20 → 0 ≤ gi M 367 x0 ∧ gi M 367 x0 ≤ 25) (hx0 : gi M 364 x0 = -1)
    (kg : ∀ e', (y_res T kind (y_231 T kind (y_167 T kind (y_pre T kind s))) ks).1.2.2.2.2.2 = true → ∀ M', yq T r M0 M' (y_res T kind (y_231 T kind (y_167 T kind (y_pre T kind s))) ks).1 (y_res T kind (y_231 T kind (y_167 T kind (y_pre T kind s))) ks).2 (fun _ => False) e' → K M') (kb : (y_res T kind (y_231 T kind (y_167 T kind (y_pre T kind s))) ks).1.2.2.2.2.2 = false → ∀ M', yb T r M0 M' → K M') :
    (0 ≤ (x0 : Int) ∧ (x0 : Int) < 480) ∧ (((gi M 360 ((x0 : Int)).toNat) = 20 → (wm_take 61 M (fun (M3 : rf_M) => w_readStatement_167 (x0 : Int) M3 K))) ∧ (¬ (gi M 360 ((x0 : Int)).toNat) = 20 → (inr v1 ∧ ((v1 = 0 → (w_readStatement_161 (x0 : Int) M K)) ∧ (¬ (v1 = 0) → (inr v1 ∧ ((v1 = 2 → (w_readStatement_161 (x0 : Int) M K)) ∧ (¬ v1 = 2 → (w_readStatement_167 (x0 : Int) M K))))))))) := by
  have hr := h.1.2.2.1
  have hn := h.2.2.1.2.1
  have ets : ((x0 : Nat) : Int).toNat = x0 := by omega
  have tk : ∀ (c : Int32), 20 ≤ c.toInt → y_pre T kind s = p_ex T c s → wm_take c.toInt M (fun M3 => w_readStatement_167 (x0 : Int) M3 K) := by
    intro c hc hp
    rw [hp] at kg kb
    refine s_take h hc (fun hg M' hy hx => ?_) (fun hg M' hb => ?_)
    · have eo : p_ex T c s = p_adv T s := by unfold p_ex; rw [hg]; rfl
      rw [eo] at kg kb
      have q : ∀ a k, ¬ (a = 353 ∧ 3 ≤ k ∧ k ≤ 8) → gi M' a k = gi M a k := fun a k z => hx a k z
      exact s_rs167 hT hy he ((q _ _ (by omega)).trans hk) hk8 h1 h2 (fun z => by rw [q 367 x0 (by omega)]; exact hl z) ((q _ _ (by omega)).trans hx0) kg kb
    · have eo : p_ex T c s = p_bad s := by unfold p_ex; rw [hg]; rfl
      rw [eo] at kb
      exact s_rs167b hb (by omega) (kb (y_chain_bad rfl))
  have hkb : -1 ≤ kind ∧ kind ≤ 20 := by unfold kk8 at hk8; omega
  have iv1 : inr v1 := by
    rcases hv1 with z | z
    · exact z.2
    · rw [z]; exact inr_z (by omega) (by omega)
  rw [ets, hk]
  have h61 := (show (61 : Int32).toInt = 61 from rfl)
  have h40 := (show (40 : Int32).toInt = 40 from rfl)
  have t40 : (kind = 0 ∨ kind = 2) → w_readStatement_161 (x0 : Int) M K := by
    intro z
    show wm_take 40 M _
    rw [← h40]
    refine tk 40 (by decide) ?_
    unfold y_pre
    rw [if_neg (by omega), if_pos z]
  refine ⟨⟨by omega, by omega⟩, fun z => ?_, fun z => ⟨iv1, fun z2 => t40 (by omega), fun z2 => ⟨iv1, fun z3 => t40 (by omega), fun z3 => ?_⟩⟩⟩
  · rw [← h61]
    refine tk 61 (by decide) ?_
    unfold y_pre
    rw [if_pos z]
  · have hp : y_pre T kind s = s := by
      unfold y_pre
      rw [if_neg z, if_neg (by omega)]
    rw [hp] at kg kb
    exact s_rs167 hT h he hk hk8 h1 h2 hl hx0 kg kb
theorem s_readStatement (hT : ∀ i, (kd T i).toInt = 1 → 0 ≤ (nb T i).toInt) (h : yq T r M0 M s ks (fun _ => False) e) (h125 : ¬ (kd T s.1).toInt = 125)
    (kg : (y_step T s ks).1.2.2.2.2.2 = true → ∀ M' e', yq T r M0 M' (y_step T s ks).1 (y_step T s ks).2 (fun _ => False) e' → K M') (kb : (y_step T s ks).1.2.2.2.2.2 = false → ∀ M', yb T r M0 M' → K M') : wm_readStatement M K := by
  have h0 := h.up h.2.2.2.2.2.2.2 (Nat.le_refl _)
  obtain ⟨⟨a1, a2, a3, a4, a5⟩, b, ⟨c1, c2, c3, c4, c5, c6⟩, ⟨c, d1, d2, d3⟩, f, g, ⟨g1, g2, g3⟩, h8⟩ := h0
  have tk := a1.2.2
  have hk := tkm_iff tk.2.2.2
  have hkw := hk.2.2.2.2.1
  have er : (gi M 353 28).toNat = r := by rw [a2]; omega
  -- what it begins with
  have main : ∀ (v1 y : Int), v1 = gi M 353 4 - 10 → (y = 1 → p_beg (kd T s.1) = true) → (y = 0 → p_beg (kd T s.1) = false) → (y = 0 ∨ y = 1) → w_readStatement_57 v1 y M K := by
    intro v1 y hv hy1 hy0 hy01
    refine ⟨inr_z (by omega) (by omega), fun z => ?_, fun z => ?_⟩
    · have hst : y_step T s ks = (p_bad s, ks) := by
        unfold y_step
        rw [if_neg h125, if_neg (fun w => by rw [hy0 z] at w; cases w.1)]
      rw [hst] at kb
      exact s_bad h (kb rfl)
    rw [er, a2, c1]
    refine ⟨⟨by omega, by omega⟩, fun z2 => ?_, fun z2 => ?_⟩
    · have hst : y_step T s ks = (p_bad s, ks) := by
        unfold y_step
        rw [if_neg h125, if_neg (fun w => by have := w.2; omega)]
      rw [hst] at kb
      exact s_bad h (kb rfl)
    have hbeg := hy1 (by omega)
    have hn : s.2.2.1 < 40 := by omega
    have hst : y_step T s ks = (if (kd T s.1).toInt = 1 ∨ (kd T s.1).toInt = 13 ∨ (kd T s.1).toInt = 14 ∨ (kd T s.1).toInt = 19 then (p_st1 T id (kd T s.1) (p_adv T (p_c1 s)), ks) else y_open T ((kd T s.1).toInt, 0) (p_if T (kd T s.1) (p_adv T (p_c1 s))) ks) := by
      unfold y_step
      rw [if_neg h125, if_pos ⟨hbeg, hn⟩]
    rw [hst, ← y_all (T := T) (ks := ks) (s := p_adv T (p_c1 s)) hbeg b.1] at kg kb
    have hk' : (kd T s.1).toInt = 1 ∨ (kd T s.1).toInt = 10 ∨ (kd T s.1).toInt = 12 ∨ (kd T s.1).toInt = 13 ∨ (kd T s.1).toInt = 14 ∨ (kd T s.1).toInt = 15 ∨ (kd T s.1).toInt = 17 ∨ (kd T s.1).toInt = 19 := by
      unfold p_beg at hbeg
      simpa using hbeg
    have hil : s.1 < T.length := kd_lt (by omega)
    refine s_newStatement (r := r) (n := s.2.2.1) a2 a3 c1 hn g1 g2 g3 (fun x x1 x2 => (f x x1 x2).1) g (fun M1 x1 n1 t1 f1 k1 o1 e1 => ?_)
    generalize hx0 : 40 * r + s.2.2.1 = x0
    rw [hx0] at e1 k1 o1
    have ets : ((x0 : Nat) : Int).toNat = x0 := by omega
    have q1 : ∀ a k, ¬ ((a = 355 ∧ k = r) ∨ (a = 358 ∧ k = r) ∨ (361 ≤ a ∧ a ≤ 367 ∧ 40 * r ≤ k ∧ k < 40 * r + 40) ∨ (a = 375 ∧ k = ks.length)) → gi M1 a k = gi M a k := fun a k w => x1 a k w
    have tok1 : gi M1 353 4 = tkm (kd T s.1).toInt := (q1 _ _ (by omega)).trans tk.1
    have let1 : gi M1 353 6 = gi M 353 6 := q1 _ _ (by omega)
    -- kind and letter
    have fin : ∀ (kind : Int), kind = (if (kd T s.1).toInt = 1 then 20 else (kd T s.1).toInt - 10) → w_readStatement_105 v1 (x0 : Int) (x0 : Int) kind M1 K := by
      intro kind hkind
      rw [← hkind] at kg kb
      have hk8 : kk8 kind := by
        unfold kk8
        rw [hkind]
        split <;> omega
      have hkb : 0 ≤ kind ∧ kind ≤ 20 := by unfold kk8 at hk8; omega
      refine ⟨⟨by omega, by omega⟩, fun M2 e2 => ?_⟩
      rw [ets] at e2
      have fin2 : ∀ (l : Int), inr l → ((kd T s.1).toInt = 1 → 0 ≤ l ∧ l ≤ 25) → w_readStatement_127 v1 (x0 : Int) (x0 : Int) l M2 K := by
        intro l il hl
        refine ⟨⟨by omega, by omega⟩, fun M3 e3 => ?_⟩
        rw [ets] at e3
        have g3' : ∀ a k, ¬ ((a = 360 ∨ a = 367) ∧ k = x0) → gi M3 a k = gi M1 a k := fun a k w => by rw [e3, gi_of (by omega), e2, gi_of (by omega)]
        have k360 : gi M3 360 x0 = kind := by rw [e3, gi_of (by omega), e2, gi_at (inr_z (by omega) (by omega))]
        have k367 : gi M3 367 x0 = l := by rw [e3, gi_at il]
        have g5 : ∀ a k, ¬ ((a = 355 ∧ k = r) ∨ (a = 358 ∧ k = r) ∨ (361 ≤ a ∧ a ≤ 367 ∧ 40 * r ≤ k ∧ k < 40 * r + 40) ∨ (a = 375 ∧ k = ks.length)) → ¬ (a = 360 ∧ k = x0) → gi M3 a k = gi M a k := fun a k w1 w2 => (g3' a k (by omega)).trans (q1 a k w1)
        have hm3 : mtk M3 T s.1 := a1.eq (fun a k w => g5 a k (by omega) (by omega))
        have hy3 : yq T r M0 M3 (p_c1 s) ks (fun x => x = x0) s.2.2.1 := by
          refine ⟨⟨hm3, (g5 _ _ (by omega) (by omega)).trans a2, a3, fun a k w => ?_, (g5 _ _ (by omega) (by omega)).trans a5⟩, b, ⟨?_, hn, (g5 _ _ (by omega) (by omega)).trans c3, c4, (g5 _ _ (by omega) (by omega)).trans c5, c6⟩, ⟨c, (g5 _ _ (by omega) (by omega)).trans d1, d2, fun x y1 y2 y3 => ?_⟩, fun x y1 y2 => ⟨(t1 x y1 y2).eq (Nat.le_refl _) y2 (fun k hk a ha => g3' _ _ (by omega)), fun y3 => ?_⟩, ?_, ⟨(g5 _ _ (by omega) (by omega)).trans g1, g2, k1 M3 (fun a k w => g3' a k (by omega))⟩, by show s.2.2.1 ≤ s.2.2.1 + 1; omega⟩
          · unfold tew at w
            exact (g5 a k (by omega) (by omega)).trans (a4 a k (by unfold tew; omega))
          · rw [g3' _ _ (by omega), n1]
            show (s.2.2.1 : Int) + 1 = ((s.2.2.1 + 1 : Nat) : Int)
            omega
          · have y2' : x < 40 * r + (s.2.2.1 + 1) := y2
            have yl : x < 40 * r + s.2.2.1 := by omega
            have o := o1 x (by omega)
            refine (d3 x y1 yl id).eq (Nat.le_refl _) (fun a ha => ?_) (fun k hk => ⟨g5 _ _ (by omega) (by omega), g5 _ _ (by omega) (by omega)⟩)
            rcases ha with rfl | rfl | rfl
            · exact g5 _ _ (by omega) (by omega)
            · exact (g3' _ _ (by omega)).trans o.1
            · exact (g3' _ _ (by omega)).trans o.2
          · have y2' : x < 40 * r + (s.2.2.1 + 1) := y2
            have yl : x < 40 * r + s.2.2.1 := by omega
            have o := o1 x (by omega)
            exact ((f x y1 yl).2 id).eq (Nat.le_refl _) ⟨g5 _ _ (by omega) (by omega), (g3' _ _ (by omega)).trans o.2⟩ (fun j _ _ => ⟨g5 _ _ (by omega) (by omega), g5 _ _ (by omega) (by omega)⟩)
          · show fst_ M3 r (s.2.2.1 + 1)
            unfold fst_
            rw [g3' 358 r (by omega)]
            exact f1.imp (fun x w => ⟨w.1, w.2.1, by rw [g3' 362 x (by omega)]; exact w.2.2⟩)
        refine s_next' hm3 hil (fun M4 x4 hm4 => ?_)
        have q4 : ∀ a k, ¬ (a = 353 ∧ 3 ≤ k ∧ k ≤ 8) → gi M4 a k = gi M3 a k := fun a k w => x4 a k w
        have hy4 : yq T r M0 M4 (p_adv T (p_c1 s)) ks (fun x => x = x0) s.2.2.1 := by
          rw [p_adv_lt (s := p_c1 s) hil]
          exact hy3.nx x4 hm4
        refine s_rsPre (kind := kind) (v1 := v1) hT hy4 rfl ((q4 _ _ (by omega)).trans k360) hk8 ?_ (by omega) (by show x0 < 40 * r + (s.2.2.1 + 1); omega) (fun w => ?_) ?_ (fun e' hok M' hy => kg hok M' e' hy) kb
        · rw [hkind]
          by_cases w : (kd T s.1).toInt = 1
          · rw [if_pos w]
            refine Or.inl ⟨rfl, ?_⟩
            have : inr (gi M 353 4) := inr_gi _ _ _
            rw [hv, tk.1, hk.2.2.1.mpr w]
            exact inr_z (by omega) (by omega)
          · rw [if_neg w]
            refine Or.inr ?_
            rw [hv, tk.1, (hkw (kd T s.1).toInt (by omega) (by omega)).mpr rfl]
        · rw [q4 367 x0 (by omega), k367]
          refine hl ?_
          rw [hkind] at w
          split at w
          · rename_i w2; exact w2
          · omega
        · rw [q4 364 x0 (by omega), g3' 364 x0 (by omega)]; exact e1
      have t2 : gi M2 353 4 = tkm (kd T s.1).toInt := by rw [e2, gi_of (by omega)]; exact tok1
      refine ⟨fun w => ?_, fun w => ?_⟩
      · have hk1 := hk.2.2.1.mp (t2.symm.trans w)
        have hl := tk.2.2.1 hk1
        have e6 : gi M2 353 6 = (nb T s.1).toInt := by rw [e2, gi_of (by omega), let1]; exact hl.1
        rw [e6]
        exact fin2 _ (inr_ti _) (fun _ => ⟨hl.2.1, hl.2.2⟩)
      · exact fin2 _ (inr_z (by omega) (by omega)) (fun w2 => absurd (t2.trans (hk.2.2.1.mpr w2)) w)
    refine ⟨fun w => fin 20 ?_, fun w => fin v1 ?_⟩
    · rw [if_pos (hk.2.2.1.mp (tok1.symm.trans w))]
    · have w1 : ¬ (kd T s.1).toInt = 1 := fun w2 => w (tok1.trans (hk.2.2.1.mpr w2))
      rw [if_neg w1, hv, tk.1, (hkw (kd T s.1).toInt (by omega) (by omega)).mpr rfl]
  have t4 := tk.1
  have bg : ∀ z : Int, (z = 1 ∨ z = 10 ∨ z = 12 ∨ z = 13 ∨ z = 14 ∨ z = 15 ∨ z = 17 ∨ z = 19) → (kd T s.1).toInt = z → p_beg (kd T s.1) = true := by
    intro z hz e
    unfold p_beg
    rw [e]
    rcases hz with rfl | rfl | rfl | rfl | rfl | rfl | rfl | rfl <;> rfl
  have wd' : ∀ z : Int, 0 ≤ z → z ≤ 9 → gi M 353 4 - 10 = z → (kd T s.1).toInt = 10 + z := fun z z1 z2 w => (hkw (10 + z) (by omega) (by omega)).mp (by rw [← t4]; omega)
  have ye : ∀ z : Int, (z = 1 ∨ z = 10 ∨ z = 12 ∨ z = 13 ∨ z = 14 ∨ z = 15 ∨ z = 17 ∨ z = 19) → (kd T s.1).toInt = z → w_readStatement_52 (gi M 353 4 - 10) M K := fun z hz e => main _ 1 rfl (fun _ => bg z hz e) (fun w => absurd w (by decide)) (Or.inr rfl)
  have i4 : inr (gi M 353 4 - 10) := by
    have hk0 : 0 ≤ gi M 353 4 ∧ gi M 353 4 ≤ 19 := by
      rw [t4]
      have := hk.2.2.2.2.2
      unfold tkm
      split
      · omega
      · split
        · omega
        · split
          · omega
          · split
            · omega
            · split <;> omega
    exact inr_z (by omega) (by omega)
  show w_readStatement M K
  refine ⟨fun w => ye 1 (by omega) (hk.2.2.1.mp (t4.symm.trans w)), fun w0 => ⟨i4, fun w => ye 10 (by omega) (by have := wd' 0 (by omega) (by omega) w; omega), fun w1 => ⟨i4, fun w => ye 12 (by omega) (by have := wd' 2 (by omega) (by omega) w; omega), fun w2 => ⟨i4, fun w => ye 13 (by omega) (by have := wd' 3 (by omega) (by omega) w; omega), fun w3 => ⟨i4, fun w => ye 14 (by omega) (by have := wd' 4 (by omega) (by omega) w; omega), fun w4 => ⟨i4, fun w => ye 15 (by omega) (by have := wd' 5 (by omega) (by omega) w; omega), fun w5 => ⟨i4, fun w => ye 17 (by omega) (by have := wd' 7 (by omega) (by omega) w; omega), fun w6 => ⟨i4, fun w => ye 19 (by omega) (by have := wd' 9 (by omega) (by omega) w; omega), fun w7 => ?_⟩⟩⟩⟩⟩⟩⟩⟩
  refine main _ 0 rfl (fun w => absurd w (by decide)) (fun _ => ?_) (Or.inl rfl)
  cases hb : p_beg (kd T s.1) with
  | false => rfl
  | true =>
    exfalso
    have hk' : (kd T s.1).toInt = 1 ∨ (kd T s.1).toInt = 10 ∨ (kd T s.1).toInt = 12 ∨ (kd T s.1).toInt = 13 ∨ (kd T s.1).toInt = 14 ∨ (kd T s.1).toInt = 15 ∨ (kd T s.1).toInt = 17 ∨ (kd T s.1).toInt = 19 := by
      unfold p_beg at hb
      simpa using hb
    rcases hk' with z | z | z | z | z | z | z | z
    · exact w0 (t4.trans (hk.2.2.1.mpr z))
    all_goals (have := (hkw _ (by omega) (by omega)).mpr z; rw [← t4] at this; omega)
end YD
