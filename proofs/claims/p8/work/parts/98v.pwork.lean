/-! THE PROGRAM'S RUN: letters, exps -/
def fdP (a b k : Nat) : Prop := (b = a ∧ (k = 2 ∨ k = 10)) ∨ b = a + 1 ∨ b = a + 10
def wkP (a b k : Nat) : Prop := (b = a ∧ (k = 2 ∨ k = 10)) ∨ b = a + 1 ∨ b = a + 10 ∨ b = a + 11 ∨ b = a + 12
/-- what a letter shows -/
def shw (w : wdT) (m : mkT) (r : rdT) (z : Int) : Int64 := if 0 ≤ z ∧ z < 16 then (if bt m.1 z.toNat then m.2.1 z.toNat else if bt r.1 z.toNat then r.2.1 z.toNat else w.1 z.toNat) else if 16 ≤ z ∧ z < 26 then m.2.2.1 (z.toNat - 16) else 0
def stkL (M : rf_M) (b : Nat) : List Int64 → Prop
  | [] => True
  | x :: st => gl M b st.length = x ∧ stkL M b st
def stk2 (M : rf_M) (c : Nat) (st : List Int64) : Prop := gi M c 1 = (st.length : Int) ∧ stkL M (c + 1) st
theorem stkL.eq {M M' : rf_M} {b : Nat} : ∀ {st : List Int64}, stkL M b st → (∀ k, k < st.length → gl M' b k = gl M b k) → stkL M' b st
  | [], _, _ => trivial
  | x :: st, h, q => ⟨(q st.length (by simp)).trans h.1, stkL.eq h.2 (fun k hk => q k (by simp; omega))⟩
theorem stkL.last {M : rf_M} {b : Nat} : ∀ {st : List Int64}, stkL M b st → st ≠ [] → gl M b 0 = st.getLastD 0
  | [], _, h => absurd rfl h
  | [x], h, _ => h.1
  | x :: y :: st, h, _ => by
    have := stkL.last h.2 (by simp)
    rw [this]
    rfl
section PR2
variable {M M' : rf_M} {p a n cc : Nat} {X : txT} {en : Int} {K : Int → rf_M → Prop} {w : wdT} {m : mkT} {r : rdT}
theorem x_hasWritten {d l : Nat} (hl : l < 16) (h1 : bt (M.1 d 0) l = true → K 1 M) (h0 : bt (M.1 d 0) l = false → K 0 M) : em_D_hasWritten d (l : Int) M K := by
  refine ⟨fun e => ⟨Or.inl rfl, h0 ?_⟩, fun e => ⟨Or.inr rfl, h1 ?_⟩⟩
  · rw [tst_u _ hl, gi_ofi] at e
    cases q : bt (M.1 d 0) l with
    | false => rfl
    | true => rw [if_pos q] at e; exact absurd e (by decide)
  · rw [tst_u _ hl, gi_ofi] at e
    cases q : bt (M.1 d 0) l with
    | true => rfl
    | false => rw [if_neg (by rw [q]; decide)] at e; exact absurd rfl e
theorem x_hasRead {d l : Nat} (hl : l < 16) (h1 : bt (M.1 d 2) l = true → K 1 M) (h0 : bt (M.1 d 2) l = false → K 0 M) : em_R_hasRead d (l : Int) M K := by
  refine ⟨fun e => ⟨Or.inl rfl, h0 ?_⟩, fun e => ⟨Or.inr rfl, h1 ?_⟩⟩
  · rw [tst_u _ hl, gi_ofi] at e
    cases q : bt (M.1 d 2) l with
    | false => rfl
    | true => rw [if_pos q] at e; exact absurd e (by decide)
  · rw [tst_u _ hl, gi_ofi] at e
    cases q : bt (M.1 d 2) l with
    | true => rfl
    | false => rw [if_neg (by rw [q]; decide)] at e; exact absurd rfl e
theorem x_shows {z : Int} {K : Int64 → rf_M → Prop} (hw : weq w (wS M (stR a))) (hm : meq m (mP M a)) (hr : req r (rP M a)) (kk : K (shw w m r z) M) : em_R_shows a z M K := by
  unfold shw at kk
  have h25 : ¬ (16 ≤ z ∧ z < 26) → e_R_shows_25 a z M K := fun ne => by
    refine x_isCell (fun hc => ⟨fun q => absurd q (by decide), fun _ => ?_⟩) (fun hc => ⟨fun _ => ?_, fun q => absurd rfl q⟩)
    · rw [if_pos hc] at kk
      obtain ⟨l, rfl⟩ : ∃ l : Nat, z = (l : Int) := ⟨z.toNat, by omega⟩
      rw [tn_] at kk
      refine x_hasWritten (by omega) (fun hb => ⟨fun q => absurd q (by decide), fun _ _ => ?_⟩) (fun hb => ⟨fun _ => ?_, fun q => absurd rfl q⟩)
      · have hb : bt m.1 l = true := by rw [← hm.1]; exact hb
        rw [if_pos hb] at kk
        rw [tn_, show gl M (a + 3) l = m.2.1 l from hm.2.1 l (by omega) hb]
        exact kk
      · have hb : ¬ bt m.1 l = true := by rw [← hm.1]; show ¬ bt (M.1 (a + 2) 0) l = true; rw [hb]; decide
        rw [if_neg hb] at kk
        refine x_hasRead (by omega) (fun hb => ⟨fun q => absurd q (by decide), fun _ _ => ?_⟩) (fun hb => ⟨fun _ _ => ?_, fun q => absurd rfl q⟩)
        · have hb : bt r.1 l = true := by rw [← hr.1]; exact hb
          rw [if_pos hb] at kk
          rw [tn_, show gl M (a + 10) l = r.2.1 l from (hr.2 l (by omega) hb).1]
          exact kk
        · have hb : ¬ bt r.1 l = true := by rw [← hr.1]; show ¬ bt (M.1 a 2) l = true; rw [hb]; decide
          rw [if_neg hb] at kk
          rw [tn_, show gl M (stR a + 1) l = w.1 l from (hw l (by omega)).1]
          exact kk
    · rw [if_neg hc, if_neg ne] at kk
      exact kk
  refine ⟨fun h => h25 (by omega), fun h => ⟨fun h' => h25 (by omega), fun h' => ⟨inr_z (by omega) (by omega), fun _ => ?_⟩⟩⟩
  rw [if_neg (by omega), if_pos (by omega)] at kk
  rw [show (z - 16).toNat = z.toNat - 16 by omega, show gl M (a + 4) (z.toNat - 16) = m.2.2.1 (z.toNat - 16) from hm.2.2.1 _ (by omega)]
  exact kk
theorem meq.eqP {P : Nat → Nat → Prop} (h : meq m (mP M a)) (e : eqy P M M') (q : ∀ b k, a + 2 ≤ b → b ≤ a + 4 → ¬ P b k) : meq m (mP M' a) := by
  exact ⟨(e.1 _ _ (q _ _ (by omega) (by omega))).1.trans h.1, fun l hl b => (e.l (q _ _ (by omega) (by omega))).trans (h.2.1 l hl b), fun l hl => (e.l (q _ _ (by omega) (by omega))).trans (h.2.2.1 l hl), (e.i (q _ _ (by omega) (by omega))).trans h.2.2.2⟩
theorem req.eqP {P : Nat → Nat → Prop} (h : req r (rP M a)) (e : eqy P M M') (q : ∀ b k, (b = a ∧ k = 2) ∨ b = a + 1 ∨ b = a + 10 → ¬ P b k) : req r (rP M' a) := by
  refine ⟨(e.1 _ _ (q _ _ (by omega))).1.trans h.1, fun l hl b => ⟨(e.l (q _ _ (by omega))).trans (h.2 l hl b).1, (e.1 _ _ (q _ _ (by omega))).1.trans (h.2 l hl b).2⟩⟩
theorem weq.eqP {P : Nat → Nat → Prop} {st : Nat} (h : weq w (wS M st)) (e : eqy P M M') (q : ∀ b k, b = st + 1 ∨ b = st + 2 → ¬ P b k) : weq w (wS M' st) := fun l hl => ⟨(e.l (q _ _ (by omega))).trans (h l hl).1, (e.1 _ _ (q _ _ (by omega))).1.trans (h l hl).2⟩
theorem x_find {z : Int} (hst : stR a + 7 < a) (hw : weq w (wS M (stR a))) (hm : meq m (mP M a)) (hr : req r (rP M a)) (h0 : lval w m r z = none → K 0 M) (h1 : ∀ v r' M', lval w m r z = some (v, r') → eqy (fdP a) M M' → req r' (rP M' a) → gl M' a 10 = v → K 1 M') : em_R_find a z M K := by
  have sh : (lval w m r z = some (shw w m r z, r)) → e_R_find_26 a z M K := fun hl => x_shows hw hm hr (fun M2 e2 => by
    have e : eqy (fdP a) M M2 := by rw [e2]; exact (eqy.rfl' M).wl (Or.inl ⟨rfl, Or.inr rfl⟩)
    refine h1 _ r M2 hl e ?_ (by rw [e2]; exact gl_at _ _ _ _)
    have e' : eqy (fun b k => b = a ∧ k = 10) M M2 := by rw [e2]; exact (eqy.rfl' M).wl ⟨rfl, rfl⟩
    exact hr.eqP e' (fun b k => by omega))
  refine x_isCell (fun hc => ⟨fun q => absurd q (by decide), fun _ => ?_⟩) (fun hc => ⟨fun _ => sh ?_, fun q => absurd rfl q⟩)
  · obtain ⟨l, rfl⟩ : ∃ l : Nat, z = (l : Int) := ⟨z.toNat, by omega⟩
    have hl : l < 16 := by omega
    refine x_hasWritten hl (fun hb => ⟨fun q => absurd q (by decide), fun _ => sh ?_⟩) (fun hb => ⟨fun _ => x_hasRead hl (fun hb2 => ⟨fun q => absurd q (by decide), fun _ => sh ?_⟩) (fun hb2 => ⟨fun _ => ?_, fun q => absurd rfl q⟩), fun q => absurd rfl q⟩)
    · have hb : bt m.1 l = true := by rw [← hm.1]; exact hb
      unfold lval shw
      rw [if_pos hc, if_pos hc, tn_, if_pos hb, if_pos hb]
    · have hb : ¬ bt m.1 l = true := by rw [← hm.1]; show ¬ bt (M.1 (a + 2) 0) l = true; rw [hb]; decide
      have hb2 : bt r.1 l = true := by rw [← hr.1]; exact hb2
      unfold lval shw
      rw [if_pos hc, if_pos hc, tn_, if_neg hb, if_neg hb, if_pos hb2, if_pos hb2]
    · have hb : ¬ bt m.1 l = true := by rw [← hm.1]; show ¬ bt (M.1 (a + 2) 0) l = true; rw [hb]; decide
      have hb2 : ¬ bt r.1 l = true := by rw [← hr.1]; show ¬ bt (M.1 a 2) l = true; rw [hb2]; decide
      unfold lval at h0 h1
      rw [if_pos hc, tn_, if_neg hb, if_neg hb2] at h0
      rw [if_pos hc, tn_, if_neg hb, if_neg hb2] at h1
      refine x_isStale hw hr ⟨fun hz => ?_, fun hz => ?_⟩
      · have hs : ¬ stale w r = true := fun q => by rw [if_pos q] at hz; exact absurd hz (by decide)
        rw [if_neg hs] at h1
        intro M5 e5 _ _ M6 e6 _ _ M7 e7 _ M8 e8
        rw [tn_] at e6 e7 e8
        have y5 : eqy (fdP a) M M5 := by rw [e5]; exact (eqy.rfl' M).wi (Or.inl ⟨rfl, Or.inl rfl⟩)
        have y6 : eqy (fdP a) M M6 := by rw [e6]; exact y5.wl (Or.inr (Or.inr rfl))
        have y7 : eqy (fdP a) M M7 := by rw [e7]; exact y6.wi (Or.inr (Or.inl rfl))
        have y8 : eqy (fdP a) M M8 := by rw [e8]; exact y7.wl (Or.inl ⟨rfl, Or.inr rfl⟩)
        have nw : ∀ b k, b = stR a + 1 ∨ b = stR a + 2 → ¬ fdP a b k := fun b k h => by unfold fdP; omega
        have v10 : gl M8 (a + 10) l = w.1 l := by
          rw [e8, gl_of (Or.inl (by omega)), e7]
          show gl M6 (a + 10) l = _
          rw [e6, gl_at]
          exact (y5.l (nw _ _ (Or.inl rfl))).trans (hw l hl).1
        have v1 : M8.1 (a + 1) l = w.2 l := by
          rw [e8]
          show M7.1 (a + 1) l = _
          rw [e7]
          show (rf_wi M6 (a + 1) l (Int32.ofInt (gi M6 (stR a + 2) l))).1 (a + 1) l = _
          rw [rf_wi_at, gi_ofi]
          exact (y6.1 _ _ (nw _ _ (Or.inr rfl))).1.trans (hw l hl).2
        have vm : M8.1 a 2 = bs r.1 l := by
          rw [e8]
          show M7.1 a 2 = _
          rw [e7]
          show (rf_wi M6 (a + 1) l _).1 a 2 = _
          rw [rf_wi_of _ _ (Or.inl (by omega)), e6]
          show M5.1 a 2 = _
          rw [e5]
          show (rf_wi M a 2 _).1 a 2 = _
          rw [rf_wi_at, bs_lit _ hl, gi_ofi]
          exact congrArg (fun x => bs x l) hr.1
        refine h1 _ _ M8 rfl y8 ⟨vm, fun j hj b => ?_⟩ ?_
        · by_cases e : j = l
          · subst e
            exact ⟨v10.trans (va_up_at _ _ _).symm, v1.trans (va_up_at _ _ _).symm⟩
          · have b : bt (bs r.1 l) j = true := b
            rw [bt_bs hl hj] at b
            have b : bt r.1 j = true := by simpa [e] using b
            have q := hr.2 j hj b
            constructor
            · show gl M8 (a + 10) j = va_up r.2.1 l _ j
              rw [va_up_of e, e8, gl_of (Or.inl (by omega)), e7]
              show gl M6 (a + 10) j = _
              rw [e6, gl_of (Or.inr e), e5]
              exact q.1
            · show M8.1 (a + 1) j = va_up r.2.2 l _ j
              rw [va_up_of e, e8]
              show M7.1 (a + 1) j = _
              rw [e7]
              show (rf_wi M6 (a + 1) l _).1 (a + 1) j = _
              rw [rf_wi_of _ _ (Or.inr e), e6]
              show M5.1 (a + 1) j = _
              rw [e5]
              show (rf_wi M a 2 _).1 (a + 1) j = _
              rw [rf_wi_of _ _ (Or.inl (by omega))]
              exact q.2
        · rw [e8, gl_at, e7]
          show gl M6 (a + 10) l = _
          rw [e6, gl_at]
          exact (y5.l (nw _ _ (Or.inl rfl))).trans (hw l hl).1
      · have hs : stale w r = true := by
          by_cases q : stale w r = true
          · exact q
          · rw [if_neg q] at hz; exact absurd rfl hz
        exact h0 (if_pos hs)
  · unfold lval shw
    rw [if_neg hc, if_neg hc]
    split <;> rfl
def cuP (c b k : Nat) : Prop := (b = c ∧ k = 1) ∨ b = c + 1
theorem x_push {c : Nat} {v : Int64} {st : List Int64} {K : rf_M → Prop} (hs : stk2 M c st) (hl : st.length < 60) (kk : ∀ M', eqy (cuP c) M M' → stk2 M' c (v :: st) → K M') : em_A_push c v M K := by
  refine ⟨fun h => absurd h (by rw [hs.1]; omega), fun _ _ M1 e1 M2 e2 => ?_⟩
  rw [hs.1, tn_] at e1
  have g1 : gi M1 c 1 = (st.length : Int) := by rw [e1]; exact hs.1
  rw [g1] at e2
  refine kk M2 ?_ ⟨?_, ?_, ?_⟩
  · rw [e2, e1]
    exact ((eqy.rfl' M).wl (Or.inr rfl)).wi (Or.inl ⟨rfl, rfl⟩)
  · rw [e2, gi_at (inr_z (by omega) (by omega))]
    simp
  · rw [e2, gl_wi, e1, gl_at]
  · refine hs.2.eq (fun k hk => ?_)
    rw [e2, gl_wi, e1, gl_of (Or.inr (by omega))]
theorem x_pop {c : Nat} {st : List Int64} {K : Int64 → rf_M → Prop} (hs : stk2 M c st) (hl : st.length ≤ 60) (kk : ∀ M', eqy (cuP c) M M' → stk2 M' c st.tail → K (st.headD 0) M') : em_A_pop c M K := by
  refine ⟨fun h M1 e1 => ?_, fun h => ?_⟩
  · cases st with
    | nil => rw [hs.1] at h; exact absurd h (by simp)
    | cons x st =>
      have hl : st.length + 1 ≤ 60 := hl
      have g0 : gi M c 1 = (st.length : Int) + 1 := by rw [hs.1]; simp
      have g1 : gi M1 c 1 = (st.length : Int) := by
        rw [e1, gi_at (inr_z (by omega) (by omega))]
        omega
      rw [g1, tn_]
      refine fun _ => ?_
      have e : gl M1 (c + 1) st.length = x := by rw [e1]; exact hs.2.1
      rw [e]
      refine kk M1 (by rw [e1]; exact (eqy.rfl' M).wi (Or.inl ⟨rfl, rfl⟩)) ⟨g1, ?_⟩
      refine hs.2.2.eq (fun k hk => ?_)
      rw [e1, gl_wi]
  · cases st with
    | nil => exact kk M (eqy.rfl' M) hs
    | cons x st => rw [hs.1] at h; exact absurd (by simp) h
theorem x_join {o : Int} {x y : Int64} {K : Int64 → rf_M → Prop} (hz : ¬ (y = 0 ∧ (o = 47 ∨ o = 37))) (kk : ∀ v, jn o x y = some v → K v M) : em_A_join o x y M K := by
  unfold jn at kk
  refine ⟨fun e => ⟨fun h => ?_, fun h hne => ?_⟩, fun e => ?_, fun e => ?_, fun e => ?_, fun e => ⟨fun h => ?_, fun h hne => ?_⟩, fun e => ⟨fun h => ?_, fun h => ?_⟩, fun e => ⟨fun h => ?_, fun h => ?_⟩, fun e => ⟨fun h => ?_, fun h => ?_⟩⟩
  · exact absurd ⟨(lgc0 _ _).mp h, Or.inr e⟩ hz
  · subst e
    refine kk _ ?_
    rw [if_neg (by decide), if_neg (by decide), if_neg (by decide), if_neg (by decide), if_neg (by decide), if_neg (by decide), if_pos rfl, if_neg hne]
  · subst e; exact kk _ rfl
  · subst e; exact kk _ rfl
  · subst e; exact kk _ rfl
  · exact absurd ⟨(lgc0 _ _).mp h, Or.inl e⟩ hz
  · subst e
    refine kk _ ?_
    rw [if_neg (by decide), if_neg (by decide), if_neg (by decide), if_neg (by decide), if_neg (by decide), if_pos rfl, if_neg hne]
  · subst e
    refine kk _ ?_
    rw [if_pos rfl, if_neg ((lgcn _ _).mp h)]
    rfl
  · subst e
    refine kk _ ?_
    rw [if_pos rfl, if_pos (Classical.not_not.mp (fun q => h ((lgcn _ _).mpr q)))]
    rfl
  · subst e
    refine kk _ ?_
    rw [if_neg (by decide), if_pos rfl, if_pos ((lgc0 _ _).mp h)]
    rfl
  · subst e
    refine kk _ ?_
    rw [if_neg (by decide), if_pos rfl, if_neg (fun q => h ((lgc0 _ _).mpr q))]
    rfl
  · refine kk _ ?_
    rw [if_neg e.2.2.2.2.2.1, if_neg e.2.2.2.2.2.2, if_neg e.2.2.1, if_neg e.2.2.2.1, if_neg e.2.1, if_neg e.2.2.2.2.1, if_neg e.1, if_pos ((lgc0 _ _).mp h)]
    rfl
  · refine kk _ ?_
    rw [if_neg e.2.2.2.2.2.1, if_neg e.2.2.2.2.2.2, if_neg e.2.2.1, if_neg e.2.2.2.1, if_neg e.2.1, if_neg e.2.2.2.2.1, if_neg e.1, if_neg (fun q => h ((lgc0 _ _).mpr q))]
    rfl
theorem x_workR {e : Int} (hst : stR a + 7 < a) (hpa : p + 11 < a) (hX : wfx X n cc en) (ht : ptx M p X n cc en) (hc : cdo X cc e) (hw : weq w (wS M (stR a))) (hm : meq m (mP M a)) (hr : req r (rP M a)) (kk : ∀ M', eqy (wkP a) M M' → req (evc X.2.1 X.2.2 w m 161 e.toNat [] r).2 (rP M' a) → ((evc X.2.1 X.2.2 w m 161 e.toNat [] r).1.1 ≠ 1 → (evc X.2.1 X.2.2 w m 161 e.toNat [] r).1.1 ≠ 2 → 0 < gi M' (a + 11) 1 ∧ gl M' (a + 12) 0 = (evc X.2.1 X.2.2 w m 161 e.toNat [] r).1.2) → K (evc X.2.1 X.2.2 w m 161 e.toNat [] r).1.1 M') : em_A_workR (a + 11) p e a M K := by
  obtain ⟨c0, c1, k, ck, c2, c3⟩ := hc
  obtain ⟨e, rfl⟩ : ∃ x : Nat, e = (x : Int) := ⟨e.toNat, by omega⟩
  rw [tn_] at c1 c2 c3 kk
  generalize hE : evc X.2.1 X.2.2 w m 161 e [] r = E at kk
  intro M1 e1
  have y1 : eqy (wkP a) M M1 := by rw [e1]; exact (eqy.rfl' M).wi (Or.inr (Or.inr (Or.inr (Or.inl rfl))))
  refine ⟨fun v0 v1 v3 v4 M' => v0 = a + 11 ∧ v1 = p ∧ v3 = a ∧ ∃ (i f : Nat) (st : List Int64) (r' : rdT), v4 = (i : Int) ∧ eqy (wkP a) M M' ∧ req r' (rP M' a) ∧ stk2 M' (a + 11) st ∧ evc X.2.1 X.2.2 w m f i st r' = E ∧ (e ≤ i ∧ i ≤ e + k ∧ e + k < i + f) ∧ (st ≠ [] ∨ i = e) ∧ st.length ≤ psh X.2.1 i, ⟨rfl, rfl, rfl, e, 161, [], r, rfl, y1, ?_, ⟨by rw [e1, gi_at (inr_z (by omega) (by omega))]; rfl, trivial⟩, hE, ⟨by omega, by omega, by omega⟩, Or.inr rfl, Nat.zero_le _⟩, ?_⟩
  · have y1' : eqy (fun b k => b = a + 11 ∧ k = 1) M M1 := by rw [e1]; exact (eqy.rfl' M).wi ⟨rfl, rfl⟩
    exact hr.eqP y1' (fun b k => by omega)
  rintro v0 v1 v3 v4 M' - ⟨rfl, rfl, rfl, i, f, st, r', rfl, y, hr', hs, hev, ⟨hi0, hi1, hi2⟩, hne, hlen⟩
  have nP : ∀ b k, v1 ≤ b → b ≤ v1 + 11 → ¬ wkP v3 b k := fun b k h1 h2 => by unfold wkP; omega
  have ht' := ht.eq y nP
  have hm' : meq m (mP M' v3) := hm.eqP y (fun b k h1 h2 => by unfold wkP; omega)
  have hw' : weq w (wS M' (stR v3)) := hw.eqP y (fun b k h => by unfold wkP; omega)
  have hicc : i < cc := by omega
  have hps : psh X.2.1 (i + 1) ≤ 60 := Nat.le_trans (psh_mono _ (by omega)) hX.2.2.1
  have hpi : psh X.2.1 i ≤ 60 := Nat.le_trans (psh_mono _ (by omega)) hX.2.2.1
  obtain ⟨f, rfl⟩ : ∃ g, f = g + 1 := ⟨f - 1, by omega⟩
  have cu : ∀ b k, cuP (v3 + 11) b k → wkP v3 b k := fun b k h => by unfold cuP at h; unfold wkP; omega
  have rcu : ∀ {r0 : rdT} {N N' : rf_M}, req r0 (rP N v3) → eqy (cuP (v3 + 11)) N N' → req r0 (rP N' v3) := fun h e => h.eqP e (fun b k q => by unfold cuP; omega)
  refine ⟨fun h => absurd h (by omega), fun _ => ⟨fun h => absurd h (by rw [ht'.1.2.1]; omega), fun _ h160 => ?_⟩⟩
  rw [tn_, (ht'.2.2 i hicc).1, (ht'.2.2 i hicc).2]
  unfold evc at hev
  have nxt : ∀ (N : rf_M) (st2 : List Int64) (r2 : rdT), eqy (wkP v3) M N → req r2 (rP N v3) → stk2 N (v3 + 11) st2 → evc X.2.1 X.2.2 w m f (i + 1) st2 r2 = E → ¬ X.2.1 i = 0 → st2 ≠ [] → st2.length ≤ psh X.2.1 (i + 1) → e_A_workR_158 (v3 + 11) v1 v3 (i : Int) N (fun v0 v1' v3' v4 M' => v0 = v3 + 11 ∧ v1' = v1 ∧ v3' = v3 ∧ ∃ (i f : Nat) (st : List Int64) (r' : rdT), v4 = (i : Int) ∧ eqy (wkP v3) M M' ∧ req r' (rP M' v3) ∧ stk2 M' (v3 + 11) st ∧ evc X.2.1 X.2.2 w m f i st r' = E ∧ (e ≤ i ∧ i ≤ e + k ∧ e + k < i + f) ∧ (st ≠ [] ∨ i = e) ∧ st.length ≤ psh X.2.1 i) K := fun N st2 r2 q1 q2 q3 q4 q5 q6 q7 => by
    refine ⟨inr_z (by omega) (by omega), rfl, rfl, rfl, i + 1, f, st2, r2, by omega, q1, q2, q3, q4, ⟨by omega, ?_, by omega⟩, Or.inl q6, q7⟩
    by_cases e3 : i = e + k
    · rw [e3] at q5; exact absurd c2 q5
    · omega
  refine ⟨fun z0 => ?_, fun z0 => ⟨fun z1 _ => ?_, fun z1 => ⟨fun z2 _ => ?_, fun z2 => ⟨fun z3 => ?_, fun z3 => ?_⟩⟩⟩⟩
  · rw [if_pos z0] at hev
    have hst2 : st ≠ [] := by
      rcases hne with q | q
      · exact q
      · rw [q] at z0; omega
    have := kk M' y (by rw [← hev]; exact hr') (fun _ _ => by
      rw [← hev]
      refine ⟨?_, hs.2.last hst2⟩
      rw [hs.1]
      have : 0 < st.length := List.length_pos_iff.mpr hst2
      omega)
    rw [← hev] at this
    exact this
  · rw [if_neg z0, if_pos z1] at hev
    have e4 : psh X.2.1 (i + 1) = psh X.2.1 i + 1 := by show psh X.2.1 i + (if _ then 1 else 0) = _; rw [if_pos (Or.inl z1)]
    refine x_push hs (by omega) (fun N q1 q2 => nxt N _ r' (y.trans (q1.mono cu)) (rcu hr' q1) q2 hev z0 (by simp) (by simp; omega))
  · rw [if_neg z0, if_neg z1, if_pos z2] at hev
    have e4 : psh X.2.1 (i + 1) = psh X.2.1 i + 1 := by show psh X.2.1 i + (if _ then 1 else 0) = _; rw [if_pos (Or.inr z2)]
    refine x_find hst hw' hm' hr' (fun hn => ⟨fun _ => ?_, fun q => absurd rfl q⟩) (fun v r2 N hl q1 q2 q3 => ⟨fun q => absurd q (by decide), fun _ => ?_⟩)
    · rw [hn] at hev
      have := kk M' y (by rw [← hev]; exact hr') (fun q _ => by rw [← hev] at q; exact absurd rfl q)
      rw [← hev] at this
      exact this
    · rw [hl] at hev
      rw [q3]
      have hs' : stk2 N (v3 + 11) st := by
        refine ⟨(q1.i (by unfold fdP; omega)).trans hs.1, hs.2.eq (fun k hk => q1.l (by unfold fdP; omega))⟩
      exact x_push hs' (by omega) (fun N' q4 q5 => nxt N' _ r2 ((y.trans (q1.mono (fun b k h => by unfold fdP at h; unfold wkP; omega))).trans (q4.mono cu)) (rcu q2 q4) q5 hev z0 (by simp) (by simp; omega))
  · rw [if_neg z0, if_neg z1, if_neg z2, if_pos z3] at hev
    have hne' : st ≠ [] := by
      rcases hne with q | q
      · exact q
      · rw [q] at z1 z2; omega
    have e4 : psh X.2.1 i ≤ psh X.2.1 (i + 1) := psh_mono _ (by omega)
    have hl1 : 0 < st.length := List.length_pos_iff.mpr hne'
    refine x_pop hs (by omega) (fun N q1 q2 => x_push q2 (by simp; omega) (fun N' q4 q5 => nxt N' _ r' ((y.trans (q1.mono cu)).trans (q4.mono cu)) (rcu (rcu hr' q1) q4) q5 hev z0 (by simp) (by simp; omega)))
  · rw [if_neg z0, if_neg z1, if_neg z2, if_neg z3] at hev
    have hne' : st ≠ [] := by
      rcases hne with q | q
      · exact q
      · rw [q] at z1 z2; omega
    have e4 : psh X.2.1 i ≤ psh X.2.1 (i + 1) := psh_mono _ (by omega)
    have hl1 : 0 < st.length := List.length_pos_iff.mpr hne'
    refine x_pop hs (by omega) (fun N q1 q2 => x_pop q2 (by simp; omega) (fun N2 q3 q4 => ?_))
    have yN2 : eqy (wkP v3) M N2 := (y.trans (q1.mono cu)).trans (q3.mono cu)
    have rN2 : req r' (rP N2 v3) := rcu (rcu hr' q1) q3
    have go : ¬ (st.headD 0 = 0 ∧ (X.2.1 i = 47 ∨ X.2.1 i = 37)) → e_A_workR_145 (v3 + 11) v1 v3 (i : Int) (X.2.1 i) (st.headD 0) (st.tail.headD 0) N2 (fun v0 v1' v3' v4 M' => v0 = v3 + 11 ∧ v1' = v1 ∧ v3' = v3 ∧ ∃ (i f : Nat) (st : List Int64) (r' : rdT), v4 = (i : Int) ∧ eqy (wkP v3) M M' ∧ req r' (rP M' v3) ∧ stk2 M' (v3 + 11) st ∧ evc X.2.1 X.2.2 w m f i st r' = E ∧ (e ≤ i ∧ i ≤ e + k ∧ e + k < i + f) ∧ (st ≠ [] ∨ i = e) ∧ st.length ≤ psh X.2.1 i) K := fun hz => by
      refine x_join hz (fun v hv => ?_)
      rw [hv] at hev
      exact x_push q4 (by simp; omega) (fun N' q5 q6 => nxt N' _ r' (yN2.trans (q5.mono cu)) (rcu rN2 q5) q6 hev z0 (by simp) (by simp; omega))
    have bz : st.headD 0 = 0 → (X.2.1 i = 47 ∨ X.2.1 i = 37) → K 2 N2 := fun h1 h2 => by
      have hj : jn (X.2.1 i) (st.tail.headD 0) (st.headD 0) = none := by
        unfold jn
        rcases h2 with h2 | h2
        · rw [h2, if_neg (by decide), if_neg (by decide), if_neg (by decide), if_neg (by decide), if_neg (by decide), if_pos rfl, if_pos h1]
        · rw [h2, if_neg (by decide), if_neg (by decide), if_neg (by decide), if_neg (by decide), if_neg (by decide), if_neg (by decide), if_pos rfl, if_pos h1]
      rw [hj] at hev
      have := kk N2 yN2 (by rw [← hev]; exact rN2) (fun _ q => by rw [← hev] at q; exact absurd rfl q)
      rw [← hev] at this
      exact this
    refine ⟨fun h => ⟨fun h47 => bz ((lgc0 _ _).mp h) (Or.inl h47), fun h47 => ⟨fun h37 => bz ((lgc0 _ _).mp h) (Or.inr h37), fun h37 => go (fun q => q.2.elim h47 h37)⟩⟩, fun h => go (fun q => h ((lgc0 _ _).mpr q.1))⟩
end PR2
