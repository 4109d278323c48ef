/-! THE REFERENCE'S RUN: exps, marks -/
def wkW (b k : Nat) : Prop := (b = 353 ∧ (k = 52 ∨ k = 65 ∨ k = 66)) ∨ b = 389 ∨ b = 390 ∨ b = 398
def kR (M : rf_M) (s : Nat) : mkT := (M.1 394 s, fun l => gl M 395 (16 * s + l), fun l => gl M 396 (10 * s + l), gi M 397 s)
def vR (M : rf_M) (t : Nat) : vwT := (mR M, fun j => gi M 393 j, fun h => kR M (40 * t + h))
section WR2
variable {M M' : rf_M} {t n cc : Nat} {X : txT} {en : Int} {w : wdT} {m : mkT} {r : rdT}
theorem meq.eqR {P : Nat → Nat → Prop} (h : meq m (mR M)) (e : eqy P M M') (q : ∀ b k, (b = 353 ∧ (k = 55 ∨ k = 58)) ∨ b = 391 ∨ b = 392 → ¬ P b k) : meq m (mR M') := ⟨(e.1 _ _ (q _ _ (by omega))).1.trans h.1, fun l hl b => (e.l (q _ _ (by omega))).trans (h.2.1 l hl b), fun l hl => (e.l (q _ _ (by omega))).trans (h.2.2.1 l hl), (e.i (q _ _ (by omega))).trans h.2.2.2⟩
theorem req.eqR {P : Nat → Nat → Prop} (h : req r (rR M)) (e : eqy P M M') (q : ∀ b k, (b = 353 ∧ k = 52) ∨ b = 389 ∨ b = 390 → ¬ P b k) : req r (rR M') := ⟨(e.1 _ _ (q _ _ (by omega))).1.trans h.1, fun l hl b => ⟨(e.l (q _ _ (by omega))).trans (h.2 l hl b).1, (e.1 _ _ (q _ _ (by omega))).1.trans (h.2 l hl b).2⟩⟩
theorem weq.eqR {P : Nat → Nat → Prop} {d : Nat} (h : weq w (wR M d)) (e : eqy P M M') (q : ∀ b k, b = 376 ∨ b = 377 → ¬ P b k) : weq w (wR M' d) := fun l hl => ⟨(e.l (q _ _ (by omega))).trans (h l hl).1, (e.1 _ _ (q _ _ (by omega))).1.trans (h l hl).2⟩
theorem y_work {e rule : Int} {d : Nat} {K : Int64 → rf_M → Prop} (hX : wfx X n cc en) (ht : rtx M t X n cc en) (ht12 : t < 12) (hc : cdo X cc e) (hL : (rule = 0 ∧ gi M 353 42 = (d : Int) ∧ d < 2 ∧ weq w (wR M d) ∧ meq m (mR M)) ∨ (rule = 1 ∧ ∀ l, l < 16 → bt m.1 l = true ∧ m.2.1 l = gl M 399 l)) (hr : req r (rR M)) (h65 : gi M 353 65 = 0) (kk : ∀ z M', eqy wkW M M' → req (evc X.2.1 X.2.2 w m 161 e.toNat [] r).2 (rR M') → ((evc X.2.1 X.2.2 w m 161 e.toNat [] r).1.1 = 1 → gi M' 353 65 = 2) → ((evc X.2.1 X.2.2 w m 161 e.toNat [] r).1.1 = 2 → gi M' 353 65 = 1 ∧ gl M' 353 66 = -1) → ((evc X.2.1 X.2.2 w m 161 e.toNat [] r).1.1 ≠ 1 → (evc X.2.1 X.2.2 w m 161 e.toNat [] r).1.1 ≠ 2 → gi M' 353 65 = 0 ∧ z = (evc X.2.1 X.2.2 w m 161 e.toNat [] r).1.2) → K z M') : em_W_work (200 * (t : Int) + e) rule M K := by
  obtain ⟨c0, c1, k, ck, c2, c3⟩ := hc
  obtain ⟨e, rfl⟩ : ∃ x : Nat, e = (x : Int) := ⟨e.toNat, by omega⟩
  rw [tn_] at c1 c2 c3 kk
  generalize hE : evc X.2.1 X.2.2 w m 161 e [] r = E at kk
  have hcc := hX.2.1
  refine ⟨fun v2 v3 v4 M' => v2 = rule ∧ eqy wkW M M' ∧ (0 ≤ v4 ∧ v4 ≤ 2400) ∧ ((∃ (i f : Nat) (st : List Int64) (r' : rdT), v4 = 200 * (t : Int) + (i : Int) ∧ v3 = (st.length : Int) ∧ gi M' 353 65 = 0 ∧ req r' (rR M') ∧ stkL M' 398 st ∧ evc X.2.1 X.2.2 w m f i st r' = E ∧ (e ≤ i ∧ i ≤ e + k ∧ e + k < i + f) ∧ (st ≠ [] ∨ i = e) ∧ st.length + e ≤ i) ∨ (¬ gi M' 353 65 = 0 ∧ req E.2 (rR M') ∧ ((E.1.1 = 1 ∧ gi M' 353 65 = 2) ∨ (E.1.1 = 2 ∧ gi M' 353 65 = 1 ∧ gl M' 353 66 = -1)))), ⟨rfl, eqy.rfl' M, ⟨by omega, by omega⟩, Or.inl ⟨e, 161, [], r, rfl, rfl, h65, hr, trivial, hE, ⟨by omega, by omega, by omega⟩, Or.inr rfl, by simp⟩⟩, ?_⟩
  rintro v2 v3 v4 M' - - - ⟨rfl, y, hv4, hcase⟩
  rcases hcase with ⟨i, f, st, r', rfl, rfl, g65, hr', hs, hev, ⟨hi0, hi1, hi2⟩, hne, hle⟩ | ⟨g65, hr', hen⟩
  · have ht' := ht.eq y (fun b k h1 h2 => by unfold wkW; omega)
    have hicc : i < cc := by omega
    obtain ⟨f, rfl⟩ : ∃ g, f = g + 1 := ⟨f - 1, by omega⟩
    obtain ⟨hop, hlt⟩ := hX.2.2.2.1 i hicc
    obtain ⟨b0, b1, b2⟩ := ht'.2.2 i hicc
    have ex : (200 * (t : Int) + (i : Int)).toNat = 200 * t + i := by omega
    refine fun _ => ?_
    rw [ex, b0]
    unfold evc at hev
    have haf : (af (X.2.1 i) = 4 ↔ X.2.1 i = 0) ∧ (X.2.1 i ≠ 0 → af (X.2.1 i) = X.2.1 i) := by
      unfold af
      unfold opk at hop
      constructor
      · split <;> omega
      · intro q; rw [if_neg q]
    refine ⟨fun z0 => ?_, fun z0 => ⟨fun _ _ => ?_, fun q => absurd g65 q⟩⟩
    · have z0 := haf.1.mp z0
      rw [if_pos z0] at hev
      have hst2 : st ≠ [] := by
        rcases hne with q | q
        · exact q
        · rw [q] at z0; omega
      refine ⟨fun _ _ => ?_, fun q => absurd g65 q⟩
      refine kk _ M' y (by rw [← hev]; exact hr') (fun q => by rw [← hev] at q; have q : (0 : Nat) = 1 := q; exact absurd q (by decide)) (fun q => by rw [← hev] at q; have q : (0 : Nat) = 2 := q; exact absurd q (by decide)) (fun _ _ => ⟨g65, ?_⟩)
      rw [← hev]
      exact hs.last hst2
    have z0 : ¬ X.2.1 i = 0 := fun q => z0 (haf.1.mpr q)
    rw [haf.2 z0]
    rw [if_neg z0] at hev
    have hik : i < e + k := by
      by_cases e3 : i = e + k
      · rw [e3] at z0; exact absurd c2 z0
      · omega
    have nxt : ∀ (N : rf_M) (v3 : Int) (st2 : List Int64) (r2 : rdT), eqy wkW M N → gi N 353 65 = 0 → req r2 (rR N) → stkL N 398 st2 → evc X.2.1 X.2.2 w m f (i + 1) st2 r2 = E → st2 ≠ [] → v3 = (st2.length : Int) → st2.length + e ≤ i + 1 → e_W_work_162 v2 v3 (200 * (t : Int) + (i : Int)) N (fun v2' v3 v4 M' => v2' = v2 ∧ eqy wkW M M' ∧ (0 ≤ v4 ∧ v4 ≤ 2400) ∧ ((∃ (i f : Nat) (st : List Int64) (r' : rdT), v4 = 200 * (t : Int) + (i : Int) ∧ v3 = (st.length : Int) ∧ gi M' 353 65 = 0 ∧ req r' (rR M') ∧ stkL M' 398 st ∧ evc X.2.1 X.2.2 w m f i st r' = E ∧ (e ≤ i ∧ i ≤ e + k ∧ e + k < i + f) ∧ (st ≠ [] ∨ i = e) ∧ st.length + e ≤ i) ∨ (¬ gi M' 353 65 = 0 ∧ req E.2 (rR M') ∧ ((E.1.1 = 1 ∧ gi M' 353 65 = 2) ∨ (E.1.1 = 2 ∧ gi M' 353 65 = 1 ∧ gl M' 353 66 = -1))))) K := fun N v3 st2 r2 q1 q0 q2 q3 q4 q5 q6 q7 => by
      refine ⟨inr_z (by omega) (by omega), rfl, q1, ⟨by omega, by omega⟩, Or.inl ⟨i + 1, f, st2, r2, by omega, q6, q0, q2, q3, q4, ⟨by omega, by omega, by omega⟩, Or.inl q5, q7⟩⟩
    have stop : ∀ (N : rf_M) (v3 : Int), eqy wkW M N → ¬ gi N 353 65 = 0 → req E.2 (rR N) → ((E.1.1 = 1 ∧ gi N 353 65 = 2) ∨ (E.1.1 = 2 ∧ gi N 353 65 = 1 ∧ gl N 353 66 = -1)) → e_W_work_162 v2 v3 (200 * (t : Int) + (i : Int)) N (fun v2' v3 v4 M' => v2' = v2 ∧ eqy wkW M M' ∧ (0 ≤ v4 ∧ v4 ≤ 2400) ∧ ((∃ (i f : Nat) (st : List Int64) (r' : rdT), v4 = 200 * (t : Int) + (i : Int) ∧ v3 = (st.length : Int) ∧ gi M' 353 65 = 0 ∧ req r' (rR M') ∧ stkL M' 398 st ∧ evc X.2.1 X.2.2 w m f i st r' = E ∧ (e ≤ i ∧ i ≤ e + k ∧ e + k < i + f) ∧ (st ≠ [] ∨ i = e) ∧ st.length + e ≤ i) ∨ (¬ gi M' 353 65 = 0 ∧ req E.2 (rR M') ∧ ((E.1.1 = 1 ∧ gi M' 353 65 = 2) ∨ (E.1.1 = 2 ∧ gi M' 353 65 = 1 ∧ gl M' 353 66 = -1))))) K := fun N v3 q1 q0 q2 q3 => ⟨inr_z (by omega) (by omega), rfl, q1, ⟨by omega, by omega⟩, Or.inr ⟨q0, q2, q3⟩⟩
    have w98 : ∀ {N N' : rf_M} {j : Nat} {v : Int64}, N' = wl N 398 j v → eqy (fun b _ => b = 398) N N' := fun q => by rw [q]; exact (eqy.rfl' _).wl rfl
    have c98 : ∀ b k, b = 398 → wkW b k := fun b k h => Or.inr (Or.inr (Or.inr h))
    refine ⟨fun z1 _ h64 M5 e5 => ?_, fun z1 => ⟨fun z2 => ⟨fun hv _ => ?_, fun hv _ _ => ?_⟩, fun z2 => ⟨fun z3 => ⟨inr_z (by omega) (by omega), fun h64 => ⟨inr_z (by omega) (by omega), fun _ M3 e3 => ?_⟩⟩, fun z3 => ?_⟩⟩⟩
    · rw [if_pos z1] at hev
      rw [tn_, b2 z1] at e5
      have y5 := w98 e5
      refine ⟨inr_z (by omega) (by omega), nxt M5 _ ((Int32.ofInt (X.2.2 i)).toInt64 :: st) r' (y.trans (y5.mono c98)) ((y5.i (by omega)).trans g65) (hr'.eqR y5 (fun b k h => by omega)) ⟨by rw [e5, gl_at], hs.eq (fun k hk => by rw [e5, gl_of (Or.inr (by omega))])⟩ hev (by simp) (by simp) (by simp; omega)⟩
    · rw [if_neg z1, if_pos z2] at hev
      rw [b1 z2]
      rcases hL with ⟨-, hd, hd2, hw, hm⟩ | ⟨q, -⟩
      · refine y_valueOf (hlt z2) ((y.i (by unfold wkW; omega)).trans hd) hd2 (hw.eqR y (fun b k h => by unfold wkW; omega)) (hm.eqR y (fun b k h => by unfold wkW; omega)) hr' (fun hn N y1 q1 => ?_) (fun v r2 N hl q1 q2 => ?_)
        · rw [hn] at hev
          intro h64 M6 e6
          have y6 := w98 e6
          refine ⟨inr_z (by omega) (by omega), stop M6 _ ((y.trans (y1.mono (fun b k h => Or.inl ⟨h.1, Or.inr (Or.inl h.2)⟩))).trans (y6.mono c98)) (by rw [y6.i (by omega), q1]; decide) ?_ (Or.inl ⟨by rw [← hev], (y6.i (by omega)).trans q1⟩)⟩
          rw [← hev]
          exact (hr'.eqR y1 (fun b k h => by omega)).eqR y6 (fun b k h => by omega)
        · rw [hl] at hev
          intro h64 M6 e6
          rw [tn_] at e6
          have y6 := w98 e6
          refine ⟨inr_z (by omega) (by omega), nxt M6 _ (v :: st) r2 ((y.trans (q1.mono (fun b k h => by unfold vwR at h; unfold wkW; omega))).trans (y6.mono c98)) ((y6.i (by omega)).trans ((q1.i (by unfold vwR; omega)).trans g65)) (q2.eqR y6 (fun b k h => by omega)) ⟨by rw [e6, gl_at], hs.eq (fun k hk => by rw [e6, gl_of (Or.inr (by omega))]; exact q1.l (by unfold vwR; omega))⟩ hev (by simp) (by simp) (by simp; omega)⟩
      · omega
    · rw [if_neg z1, if_pos z2] at hev
      rcases hL with ⟨q, -⟩ | ⟨-, hV⟩
      · exact absurd q hv
      · rename_i h16
        rw [b1 z2] at h16 ⊢
        obtain ⟨l, hl⟩ : ∃ l : Nat, X.2.2 i = (l : Int) := ⟨(X.2.2 i).toNat, by omega⟩
        rw [hl] at hev h16 ⊢
        have hv' := hV l (by omega)
        have hlv : lval w m r' (l : Int) = some (m.2.1 l, r') := by
          unfold lval
          rw [if_pos ⟨by omega, by omega⟩, tn_, if_pos hv'.1]
        rw [hlv] at hev
        intro h64 M6 e6
        rw [tn_, tn_, show gl M' 399 l = m.2.1 l from (y.l (by unfold wkW; omega)).trans hv'.2.symm] at e6
        have y6 := w98 e6
        refine ⟨inr_z (by omega) (by omega), nxt M6 _ (m.2.1 l :: st) r' (y.trans (y6.mono c98)) ((y6.i (by omega)).trans g65) (hr'.eqR y6 (fun b k h => by omega)) ⟨by rw [e6, gl_at], hs.eq (fun k hk => by rw [e6, gl_of (Or.inr (by omega))])⟩ hev (by simp) (by simp) (by simp; omega)⟩
    · rw [if_neg z1, if_neg z2, if_pos z3] at hev
      cases st with
      | nil => exact absurd h64.1 (by simp)
      | cons x st =>
        have ej : (((x :: st).length : Nat) : Int) - 1 = (st.length : Int) := by simp
        rw [ej, tn_, hs.1] at e3
        have y3 := w98 e3
        exact nxt M3 _ ((-x) :: st) r' (y.trans (y3.mono c98)) ((y3.i (by omega)).trans g65) (hr'.eqR y3 (fun b k h => by omega)) ⟨by rw [e3, gl_at], hs.2.eq (fun k hk => by rw [e3, gl_of (Or.inr (by omega))])⟩ hev (by simp) (by simp) (by simp at hle ⊢; omega)
    · rw [if_neg z1, if_neg z2, if_neg z3] at hev
      refine ⟨inr_z (by omega) (by omega), fun h64 => ⟨inr_z (by omega) (by omega), fun h64' => ?_⟩⟩
      match st, hs, hev, hne, h64, h64' with
      | [], _, _, _, h64, _ => exact absurd h64.1 (by simp)
      | [x], _, _, _, h64, _ => exact absurd h64.1 (by simp)
      | x :: y' :: st, hs, hev, hne, h64, h64' =>
        have ej : (((x :: y' :: st).length : Nat) : Int) + -1 - 1 = (st.length : Int) := by simp; omega
        have ej2 : (((x :: y' :: st).length : Nat) : Int) + -1 = ((st.length + 1 : Nat) : Int) := by simp; omega
        rw [ej, ej2, tn_, tn_, hs.2.1, show gl M' 398 (st.length + 1) = x from hs.1]
        refine y_two hop (by omega) (fun hj N y1 q1 q2 => ?_) (fun v hj => ?_)
        · have hev : (match jn (X.2.1 i) y' x with | none => ((2, 0), r') | some v => evc X.2.1 X.2.2 w m f (i + 1) (v :: st) r') = E := hev
          rw [hj] at hev
          refine ⟨inr_z (by omega) (by omega), fun _ M2 e2 => ?_⟩
          have y2 := w98 e2
          refine stop M2 _ ((y.trans (y1.mono (fun b k h => Or.inl ⟨h.1, Or.inr h.2⟩))).trans (y2.mono c98)) (by rw [y2.i (by omega), q1]; decide) ?_ (Or.inr ⟨by rw [← hev], (y2.i (by omega)).trans q1, (y2.l (by omega)).trans q2⟩)
          rw [← hev]
          exact (hr'.eqR y1 (fun b k h => by omega)).eqR y2 (fun b k h => by omega)
        · have hev : (match jn (X.2.1 i) y' x with | none => ((2, 0), r') | some v => evc X.2.1 X.2.2 w m f (i + 1) (v :: st) r') = E := hev
          rw [hj] at hev
          refine ⟨inr_z (by omega) (by omega), fun _ M2 e2 => ?_⟩
          have y2 := w98 e2
          exact nxt M2 _ (v :: st) r' (y.trans (y2.mono c98)) ((y2.i (by omega)).trans g65) (hr'.eqR y2 (fun b k h => by omega)) ⟨by rw [e2, gl_at], hs.2.2.eq (fun k hk => by rw [e2, gl_of (Or.inr (by omega))])⟩ hev (by simp) (by simp) (by simp at hle ⊢; omega)
  · have fin : e_W_work_168 M' K := ⟨fun q => absurd q g65, fun _ => kk _ M' y hr' (fun q => by
      rcases hen with h | h
      · exact h.2
      · omega) (fun q => by
      rcases hen with h | h
      · omega
      · exact h.2) (fun q1 q2 => by
      rcases hen with h | h
      · exact absurd h.1 q1
      · exact absurd h.1 q2)⟩
    exact fun _ => ⟨fun _ => fin, fun _ => ⟨fun q => absurd q g65, fun _ => fin⟩⟩
end WR2
