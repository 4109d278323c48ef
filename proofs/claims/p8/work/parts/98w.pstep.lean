/-! THE PROGRAM'S RUN: a step -/
def vP (M : rf_M) (a : Nat) (X : txT) : vwT := (mP M a, fun j => gi M (a + 5) j, fun h => kP M a (X.1 5 h).toNat)
/-- the run at a, of the text at p, is g with what is read r -/
def rn0 (M : rf_M) (a p : Nat) (X : txT) (n cc : Nat) (en : Int) (hw : Nat) (g : sgT) (r : rdT) : Prop := M.2.2 a 0 = some p ∧ ptx M p X n cc en ∧ gi M a 6 = g.1 ∧ plz n g.1 ∧ grl X (fun z => z) hw g (vP M a X) ∧ req r (rP M a)
def stP (a b k : Nat) : Prop := a ≤ b ∧ b ≤ a + 12 ∧ ¬ (b = a ∧ k = 1)
section PR3
variable {M M' : rf_M} {p a n cc hw : Nat} {X : txT} {en : Int} {K : Int → rf_M → Prop} {w : wdT} {m : mkT} {r : rdT} {g : sgT}
theorem vP_eq {P : Nat → Nat → Prop} (e : eqy P M M') (q : ∀ b k, a + 2 ≤ b → b ≤ a + 9 → ¬ P b k) : vP M' a X = vP M a X := by
  have e1 : ∀ b k, a + 2 ≤ b → b ≤ a + 9 → M'.1 b k = M.1 b k := fun b k h1 h2 => (e.1 b k (q b k h1 h2)).1
  have e2 : ∀ b k, a + 2 ≤ b → b ≤ a + 9 → gl M' b k = gl M b k := fun b k h1 h2 => (e.1 b k (q b k h1 h2)).2
  have e3 : ∀ b k, a + 2 ≤ b → b ≤ a + 9 → gi M' b k = gi M b k := fun b k h1 h2 => e.i (q b k h1 h2)
  unfold vP mP kP
  rw [e1 (a + 2) 0 (by omega) (by omega), e3 (a + 2) 3 (by omega) (by omega)]
  have f3 : (fun l => gl M' (a + 3) l) = fun l => gl M (a + 3) l := funext (fun l => e2 _ _ (by omega) (by omega))
  have f4 : (fun l => gl M' (a + 4) l) = fun l => gl M (a + 4) l := funext (fun l => e2 _ _ (by omega) (by omega))
  have f5 : (fun l => gi M' (a + 5) l) = fun l => gi M (a + 5) l := funext (fun l => e3 _ _ (by omega) (by omega))
  have f6 : ∀ h : Nat, ((M'.1 (a + 6) (X.1 5 h).toNat, fun l => gl M' (a + 7) ((X.1 5 h).toNat * 16 + l), fun l => gl M' (a + 8) ((X.1 5 h).toNat * 10 + l), gi M' (a + 9) (X.1 5 h).toNat) : mkT) = (M.1 (a + 6) (X.1 5 h).toNat, fun l => gl M (a + 7) ((X.1 5 h).toNat * 16 + l), fun l => gl M (a + 8) ((X.1 5 h).toNat * 10 + l), gi M (a + 9) (X.1 5 h).toNat) := fun h => by
    rw [e1 _ _ (by omega) (by omega), e3 _ _ (by omega) (by omega), show (fun l => gl M' (a + 7) ((X.1 5 h).toNat * 16 + l)) = fun l => gl M (a + 7) ((X.1 5 h).toNat * 16 + l) from funext (fun l => e2 _ _ (by omega) (by omega)), show (fun l => gl M' (a + 8) ((X.1 5 h).toNat * 10 + l)) = fun l => gl M (a + 8) ((X.1 5 h).toNat * 10 + l) from funext (fun l => e2 _ _ (by omega) (by omega))]
  rw [f3, f4, f5]
  exact congrArg (fun z => (_, _, z)) (funext f6)
theorem rn0_at {z : Int} {g' : mkT × (Nat → Int) × (Nat → mkT)} (hpa : p + 11 < a) (h0 : M.2.2 a 0 = some p) (ht : ptx M p X n cc en) (hn : n ≤ 40) (hz : plz n z) (hg : grl X (fun z => z) hw (z, g') (vP M a X)) (hr : req r (rP M a)) (e : M' = wi M a 6 z) : rn0 M' a p X n cc en hw (z, g') r := by
  have y : eqy (fun b k => b = a ∧ k = 6) M M' := by rw [e]; exact (eqy.rfl' M).wi ⟨rfl, rfl⟩
  refine ⟨by rw [y.2]; exact h0, ht.eq y (fun b k h1 h2 => by omega), ?_, hz, ?_, hr.eqP y (fun b k h => by omega)⟩
  · rw [e]
    exact gi_at (by rcases hz with q | ⟨x, q1, q2⟩ <;> exact inr_z (by omega) (by omega))
  · rw [vP_eq y (fun b k h1 h2 => by omega)]
    exact hg
/-- marking -/
theorem x_mark {lv : Nat} {K : rf_M → Prop} (hl : lv < 8) (kk : ∀ M', eqy (fun b k => a + 6 ≤ b ∧ b ≤ a + 9) M M' → meq (mP M a) (kP M' a lv) → (∀ x, x ≠ lv → x < 8 → meq (kP M a x) (kP M' a x)) → K M') : em_D_mark (a + 2) (lv : Int) M K := by
  refine ⟨fun h => absurd h (by omega), fun _ => ⟨fun _ _ M1 e1 _ M2 e2 => ⟨inr_z (by omega) (by omega), fun _ M3 e3 => ⟨inr_z (by omega) (by omega), fun _ M4 e4 => ?_⟩⟩, fun h => absurd (by omega) h⟩⟩
  rw [tn_] at e1 e2
  have n16 : ((lv : Int) * 16).toNat = lv * 16 := by omega
  have n10 : ((lv : Int) * 10).toNat = lv * 10 := by omega
  rw [n16] at e3
  rw [n10] at e4
  have e1 : M1 = wi M (a + 6) lv (gi M (a + 2) 0) := e1
  have e2 : M2 = wi M1 (a + 9) lv (gi M1 (a + 2) 3) := e2
  have e3 : M3 = cpl M2 (a + 3) 0 (a + 7) (lv * 16) 16 := e3
  have e4 : M4 = cpl M3 (a + 4) 0 (a + 8) (lv * 10) 10 := e4
  have g1 : gi M1 (a + 2) 3 = gi M (a + 2) 3 := by rw [e1, gi_of (Or.inl (by omega))]
  rw [g1] at e2
  have i4 : ∀ b k, M4.1 b k = M2.1 b k := fun b k => by rw [e4, e3]; rfl
  have m6 : ∀ k, M4.1 (a + 6) k = if k = lv then M.1 (a + 2) 0 else M.1 (a + 6) k := fun k => by
    rw [i4, e2]
    show (rf_wi M1 (a + 9) lv _).1 (a + 6) k = _
    rw [rf_wi_of _ _ (Or.inl (by omega)), e1]
    show (rf_wi M (a + 6) lv _).1 (a + 6) k = _
    by_cases e : k = lv
    · rw [if_pos e, e, rf_wi_at, gi_ofi]
    · rw [if_neg e, rf_wi_of _ _ (Or.inr e)]
  have m9 : ∀ k, gi M4 (a + 9) k = if k = lv then gi M (a + 2) 3 else gi M (a + 9) k := fun k => by
    rw [show gi M4 (a + 9) k = gi M2 (a + 9) k from congrArg Int32.toInt (i4 _ _), e2]
    by_cases e : k = lv
    · rw [if_pos e, e, gi_at (inr_gi _ _ _)]
    · rw [if_neg e, gi_of (Or.inr e), e1, gi_of (Or.inl (by omega))]
  have l2 : ∀ b k, gl M2 b k = gl M b k := fun b k => by rw [e2, e1]; rfl
  have m7 : ∀ j, j < 16 → gl M4 (a + 7) (lv * 16 + j) = gl M (a + 3) j := fun j hj => by
    rw [e4, gl_cpln (by omega), e3, gl_cpl hj, l2, Nat.zero_add]
  have m7o : ∀ k, k < lv * 16 ∨ lv * 16 + 16 ≤ k → gl M4 (a + 7) k = gl M (a + 7) k := fun k hk => by
    rw [e4, gl_cpln (by omega), e3, gl_cplo hk, l2]
  have m8 : ∀ j, j < 10 → gl M4 (a + 8) (lv * 10 + j) = gl M (a + 4) j := fun j hj => by
    rw [e4, gl_cpl hj, e3, gl_cpln (by omega), l2, Nat.zero_add]
  have m8o : ∀ k, k < lv * 10 ∨ lv * 10 + 10 ≤ k → gl M4 (a + 8) k = gl M (a + 8) k := fun k hk => by
    rw [e4, gl_cplo hk, e3, gl_cpln (by omega), l2]
  refine kk M4 ?_ ⟨?_, fun l hl' _ => m7 l hl', fun l hl' => m8 l hl', ?_⟩ (fun x hx h8 => ⟨?_, fun l hl' _ => m7o _ (by omega), fun l hl' => m8o _ (by omega), ?_⟩)
  · rw [e4, e3, e2, e1]
    exact ((((eqy.rfl' M).wi ⟨by omega, by omega⟩).wi ⟨by omega, by omega⟩).cpl (fun k => ⟨by omega, by omega⟩)).cpl (fun k => ⟨by omega, by omega⟩)
  · exact (m6 lv).trans (if_pos rfl)
  · exact (m9 lv).trans (if_pos rfl)
  · exact (m6 x).trans (if_neg hx)
  · exact (m9 x).trans (if_neg hx)
theorem x_takeBack {lv : Nat} {K : rf_M → Prop} (hl : lv < 8) (kk : ∀ M', eqy (fun b k => a + 2 ≤ b ∧ b ≤ a + 4) M M' → meq (kP M a lv) (mP M' a) → K M') : em_D_takeBack (a + 2) (lv : Int) M K := by
  refine ⟨fun h => absurd h (by omega), fun _ => ⟨fun _ _ M1 e1 _ M2 e2 => ⟨inr_z (by omega) (by omega), fun _ M3 e3 => ⟨inr_z (by omega) (by omega), fun _ M4 e4 => ?_⟩⟩, fun h => absurd (by omega) h⟩⟩
  rw [tn_] at e1 e2
  have n16 : ((lv : Int) * 16).toNat = lv * 16 := by omega
  have n10 : ((lv : Int) * 10).toNat = lv * 10 := by omega
  rw [n16] at e3
  rw [n10] at e4
  have e1 : M1 = wi M (a + 2) 0 (gi M (a + 6) lv) := e1
  have e2 : M2 = wi M1 (a + 2) 3 (gi M1 (a + 9) lv) := e2
  have e3 : M3 = cpl M2 (a + 7) (lv * 16) (a + 3) 0 16 := e3
  have e4 : M4 = cpl M3 (a + 8) (lv * 10) (a + 4) 0 10 := e4
  have g1 : gi M1 (a + 9) lv = gi M (a + 9) lv := by rw [e1, gi_of (Or.inl (by omega))]
  rw [g1] at e2
  have i4 : ∀ b k, M4.1 b k = M2.1 b k := fun b k => by rw [e4, e3]; rfl
  have l2 : ∀ b k, gl M2 b k = gl M b k := fun b k => by rw [e2, e1]; rfl
  refine kk M4 ?_ ⟨?_, fun l hl' _ => ?_, fun l hl' => ?_, ?_⟩
  · rw [e4, e3, e2, e1]
    exact ((((eqy.rfl' M).wi ⟨by omega, by omega⟩).wi ⟨by omega, by omega⟩).cpl (fun k => ⟨by omega, by omega⟩)).cpl (fun k => ⟨by omega, by omega⟩)
  · show M4.1 (a + 2) 0 = M.1 (a + 6) lv
    rw [i4, e2]
    show (rf_wi M1 (a + 2) 3 _).1 (a + 2) 0 = _
    rw [rf_wi_of _ _ (Or.inr (by omega)), e1]
    show (rf_wi M (a + 2) 0 _).1 (a + 2) 0 = _
    rw [rf_wi_at, gi_ofi]
  · show gl M4 (a + 3) l = gl M (a + 7) (lv * 16 + l)
    have := gl_cpl (M := M2) (a := a + 3) (a2 := a + 7) (sp := lv * 16) (dp := 0) hl'
    rw [Nat.zero_add] at this
    rw [e4, gl_cpln (by omega), e3, this, l2]
  · show gl M4 (a + 4) l = gl M (a + 8) (lv * 10 + l)
    have := gl_cpl (M := M3) (a := a + 4) (a2 := a + 8) (sp := lv * 10) (dp := 0) hl'
    rw [Nat.zero_add] at this
    rw [e4, this, e3, gl_cpln (by omega), l2]
  · show gi M4 (a + 2) 3 = gi M (a + 9) lv
    rw [show gi M4 (a + 2) 3 = gi M2 (a + 2) 3 from congrArg Int32.toInt (i4 _ _), e2, gi_at (inr_gi _ _ _)]
theorem x_assign {z : Int} {v : Int64} {K : rf_M → Prop} (kk : ∀ M', eqy (fun b k => a + 2 ≤ b ∧ b ≤ a + 4) M M' → meq (asg (mP M a) z v) (mP M' a) → K M') : em_D_assign (a + 2) z v M K := by
  unfold asg at kk
  refine x_isCell (fun hc => ⟨fun q => absurd q (by decide), fun _ _ M3 e3 M4 e4 => ?_⟩) (fun hc => ⟨fun _ => ⟨fun h => ?_, fun h => ⟨fun h' => ?_, fun h' => ⟨inr_z (by omega) (by omega), fun _ M2 e2 => ?_⟩⟩⟩, fun q => absurd rfl q⟩)
  · rw [if_pos hc] at kk
    obtain ⟨l, rfl⟩ : ∃ l : Nat, z = (l : Int) := ⟨z.toNat, by omega⟩
    have hl : l < 16 := by omega
    rw [tn_] at kk e3
    have e3 : M3 = wl M (a + 3) l v := e3
    have e4 : M4 = wi M3 (a + 2) 0 (Int32.ofInt (gi M3 (a + 2) 0) ||| Int32.ofInt (Int32.ofInt 1 <<< (Int32.ofInt (l : Int) &&& 31)).toInt).toInt := e4
    refine kk M4 ?_ ⟨?_, fun j hj b => ?_, fun j hj => ?_, ?_⟩
    · rw [e4, e3]
      exact ((eqy.rfl' M).wl ⟨by omega, by omega⟩).wi ⟨by omega, by omega⟩
    · show M4.1 (a + 2) 0 = bs (M.1 (a + 2) 0) l
      rw [e4]
      show (rf_wi M3 (a + 2) 0 _).1 (a + 2) 0 = _
      rw [rf_wi_at, bs_lit _ hl, gi_ofi, e3]
      rfl
    · show gl M4 (a + 3) j = va_up (fun l => gl M (a + 3) l) l v j
      rw [e4, gl_wi, e3]
      by_cases e : j = l
      · rw [e, gl_at, va_up_at]
      · rw [gl_of (Or.inr e), va_up_of e]
    · show gl M4 (a + 4) j = gl M (a + 4) j
      rw [e4, gl_wi, e3, gl_of (Or.inl (by omega))]
    · show gi M4 (a + 2) 3 = gi M (a + 2) 3
      rw [e4, gi_of (Or.inr (by omega)), e3]
      rfl
  · rw [if_neg hc, if_neg (by omega)] at kk
    exact kk M (eqy.rfl' M) (meq.rfl' _)
  · rw [if_neg hc, if_neg (by omega)] at kk
    exact kk M (eqy.rfl' M) (meq.rfl' _)
  · rw [if_neg hc, if_pos (by omega)] at kk
    rw [show (z - 16).toNat = z.toNat - 16 by omega] at e2
    have e2 : M2 = wl M (a + 4) (z.toNat - 16) v := e2
    refine kk M2 ?_ ⟨?_, fun j hj b => ?_, fun j hj => ?_, ?_⟩
    · rw [e2]
      exact (eqy.rfl' M).wl ⟨by omega, by omega⟩
    · rw [e2]; rfl
    · show gl M2 (a + 3) j = gl M (a + 3) j
      rw [e2, gl_of (Or.inl (by omega))]
    · show gl M2 (a + 4) j = va_up (fun l => gl M (a + 4) l) (z.toNat - 16) v j
      rw [e2]
      by_cases e : j = z.toNat - 16
      · rw [e, gl_at, va_up_at]
      · rw [gl_of (Or.inr e), va_up_of e]
    · rw [e2]; rfl
theorem isP_ (h : M.2.2 a 0 = some p) (hp : p ∈ k1) : isP M a 0 := by
  have e : gr M a 0 = p := by unfold gr; rw [h]; rfl
  exact ⟨by rw [e]; exact h, by rw [e]; exact hp⟩
theorem gr_ (h : M.2.2 a 0 = some p) : gr M a 0 = p := by unfold gr; rw [h]; rfl
/-- into a second body, behind taking back (and giving the letter its value) -/
theorem x_retry (ha : 199 ≤ a) (hp : p ∈ k1) (hX : wfx X n cc en) (R : rn0 M a p X n cc en hw g r) (h4 : ard X 15 9 g.1 < 0 → K 4 M) (h0 : ∀ x : Nat, ard X 15 9 g.1 = (x : Int) → ∀ M', eqy (stP a) M M' → rn0 M' a p X n cc en hw (gin X (x : Int) (X.1 8 x), g.2.2.2 x, g.2.2) r → K 0 M') : em_R_retry a M K := by
  obtain ⟨r1, r2, r3, r4, r5, r6⟩ := R
  have hk1 := k1_or hp
  refine ⟨isP_ r1 hp, ?_⟩
  rw [gr_ r1, r3]
  refine x_around hX r2 r4 ⟨fun e => h4 (by omega), fun e => ⟨isP_ r1 hp, fun _ => ?_⟩⟩
  rcases pok_ard hX (k := 15) 9 g.1 r4 r5.2.2.2 with q | ⟨x, q1, q2, q3, q4, q5⟩
  · exact absurd q e
  rw [q1, gr_ r1, tn_, (r2.2.1 x q2).2.2.2.2.2.1]
  have wx := hX.2.2.2.2.2 x q2
  have hd7 := wx.2.2.2.2.2.2.2.1 (Or.inl q3)
  obtain ⟨lv, hlv⟩ : ∃ lv : Nat, X.1 5 x = (lv : Int) := ⟨(X.1 5 x).toNat, by have := wx.2.2.1; omega⟩
  rw [hlv]
  refine x_takeBack (by omega) (fun M2 y2 m2 => ?_)
  have p2 : M2.2.2 a 0 = some p := by rw [y2.2]; exact r1
  have t2 := r2.eq y2 (fun b k _ _ => by omega)
  refine ⟨isP_ p2 hp, isP_ p2 hp, fun _ => ?_⟩
  rw [gr_ p2, (t2.2.1 x q2).2.2.2.2.2.2.2.2]
  have l8 := wx.2.2.2.2.2.1
  have hgin := fun (P : Nat → Prop) (hP : pok X P g.1) => pok_gin hX (P := P) (z := X.1 8 x) q2 (by
    rcases pok_ard hX (k := 15) 9 g.1 r4 hP with q | ⟨x', q1', q2', q3', q4', q5'⟩
    · omega
    · have : x' = x := by omega
      subst this; exact q4') (l8.imp id (fun ⟨y, y1, y2, y3, y4⟩ => ⟨y, y1, y2, y3, fun z => by omega⟩))
  refine x_into hX t2 q2 (l8.imp id (fun ⟨y, y1, y2, _⟩ => ⟨y, y1, y2, trivial⟩)) (fun M4 e4 => h0 x q1 M4 ?_ ?_)
  · rw [e4]
    exact (y2.mono (fun b k h => ⟨by omega, by omega, by omega⟩)).wi ⟨by omega, by omega, by omega⟩
  · have b := grl_back (z := gin X (x : Int) (X.1 8 x)) r5 (q5 (Or.inl q3)) (fun P _ hP => (hgin P hP).2)
    refine rn0_at (by omega) p2 t2 hX.1 (hgin _ r5.2.2.2).1 (grl_v b ?_ (fun j _ => ?_) (fun h => ?_)) (r6.eqP y2 (fun b k h => by omega)) e4
    · show meq (kP M a (X.1 5 x).toNat) (mP M2 a)
      rw [hlv, tn_]; exact m2
    · exact y2.i (by omega)
    · refine ⟨(y2.1 _ _ (by omega)).1, fun l _ _ => y2.l (by omega), fun l _ => y2.l (by omega), y2.i (by omega)⟩
theorem x_toss {v : Int64} (ha : 199 ≤ a) (hp : p ∈ k1) (hX : wfx X n cc en) (R : rn0 M a p X n cc en hw g r) (h2 : tss X g.1 v g = none → ∀ M', eqy (fun b k => b = a ∧ k = 3) M M' → gl M' a 3 = v → K 2 M') (h0 : ∀ g', tss X g.1 v g = some g' → ∀ M', eqy (stP a) M M' → rn0 M' a p X n cc en hw g' r → K 0 M') : em_R_toss a v M K := by
  obtain ⟨r1, r2, r3, r4, r5, r6⟩ := R
  have hk1 := k1_or hp
  unfold tss at h2 h0
  refine ⟨isP_ r1 hp, ?_⟩
  rw [gr_ r1, r3]
  refine x_around hX r2 r4 ⟨fun e M6 e6 => h2 (if_pos (by omega)) M6 (by rw [e6]; exact (eqy.rfl' M).wl ⟨rfl, rfl⟩) (by rw [e6]; exact gl_at _ _ _ _), fun e => ⟨isP_ r1 hp, fun _ => ?_⟩⟩
  rcases pok_ard hX (k := 17) 9 g.1 r4 r5.2.2.2 with q | ⟨x, q1, q2, q3, q4, q5⟩
  · exact absurd q e
  rw [q1, if_neg (by omega), tn_] at h0
  rw [q1, gr_ r1, tn_, (r2.2.1 x q2).2.2.2.2.2.1]
  have wx := hX.2.2.2.2.2 x q2
  have hd7 := wx.2.2.2.2.2.2.2.1 (Or.inr q3)
  obtain ⟨lv, hlv⟩ : ∃ lv : Nat, X.1 5 x = (lv : Int) := ⟨(X.1 5 x).toNat, by have := wx.2.2.1; omega⟩
  rw [hlv]
  refine x_takeBack (by omega) (fun M2 y2 m2 => ?_)
  have p2 : M2.2.2 a 0 = some p := by rw [y2.2]; exact r1
  have t2 := r2.eq y2 (fun b k _ _ => by omega)
  refine ⟨isP_ p2 hp, fun _ => ?_⟩
  rw [gr_ p2, (t2.2.1 x q2).2.1]
  refine x_assign (fun M3 y3 m3 => ?_)
  have y23 := y2.trans y3
  have p3 : M3.2.2 a 0 = some p := by rw [y3.2]; exact p2
  have t3 := t2.eq y3 (fun b k _ _ => by omega)
  refine ⟨isP_ p3 hp, isP_ p3 hp, fun _ => ?_⟩
  rw [gr_ p3, (t3.2.1 x q2).2.2.2.2.2.2.2.2]
  have l8 := wx.2.2.2.2.2.1
  have hgin := fun (P : Nat → Prop) (hP : pok X P g.1) => pok_gin hX (P := P) (z := X.1 8 x) q2 (by
    rcases pok_ard hX (k := 17) 9 g.1 r4 hP with q | ⟨x', q1', q2', q3', q4', q5'⟩
    · omega
    · have : x' = x := by omega
      subst this; exact q4') (l8.imp id (fun ⟨y, y1, y2, y3, y4⟩ => ⟨y, y1, y2, y3, fun z => by omega⟩))
  refine x_into hX t3 q2 (l8.imp id (fun ⟨y, y1, y2, _⟩ => ⟨y, y1, y2, trivial⟩)) (fun M4 e4 => h0 _ rfl M4 ?_ ?_)
  · rw [e4]
    exact (y23.mono (fun b k h => ⟨by omega, by omega, by omega⟩)).wi ⟨by omega, by omega, by omega⟩
  · have b := grl_back (z := gin X (x : Int) (X.1 8 x)) r5 (q5 (Or.inr q3)) (fun P _ hP => (hgin P hP).2)
    have b2 := grl_asg (z := gin X (x : Int) (X.1 8 x)) (l := X.1 1 x) (x := v) b (fun P _ hP => hP)
    refine rn0_at (by omega) p3 t3 hX.1 (hgin _ r5.2.2.2).1 (grl_v b2 ?_ (fun j _ => ?_) (fun h => ?_)) (r6.eqP y23 (fun b k h => by omega)) e4
    · show meq (asg (kP M a (X.1 5 x).toNat) (X.1 1 x) v) (mP M3 a)
      rw [hlv, tn_]; exact (meq_asg m2 _ _).trans m3
    · exact y23.i (by omega)
    · refine ⟨(y23.1 _ _ (by omega)).1, fun l _ _ => y23.l (by omega), fun l _ => y23.l (by omega), y23.i (by omega)⟩
theorem rn0.eqR {P : Nat → Nat → Prop} {r' : rdT} (hpa : p + 11 < a) (R : rn0 M a p X n cc en hw g r) (e : eqy P M M') (q : ∀ b k, (b ≤ p + 11 ∨ (a + 2 ≤ b ∧ b ≤ a + 9) ∨ (b = a ∧ k = 6)) → ¬ P b k) (hr : req r' (rP M' a)) : rn0 M' a p X n cc en hw g r' := by
  obtain ⟨r1, r2, r3, r4, r5, r6⟩ := R
  exact ⟨by rw [e.2]; exact r1, r2.eq e (fun b k _ h => q b k (by omega)), (e.i (q _ _ (by omega))).trans r3, r4, by rw [vP_eq e (fun b k h1 h2 => q b k (by omega))]; exact r5, hr⟩
theorem x_result {z : Int64} {K : Int64 → rf_M → Prop} (h : 0 < gi M (a + 11) 1) (e : gl M (a + 12) 0 = z) (kk : K z M) : em_A_result (a + 11) M K := by
  refine ⟨fun q => absurd h (by omega), fun _ _ => ?_⟩
  show K (gl M (a + 12) 0) M
  rw [e]; exact kk
/-- an exp, and what comes of it -/
theorem x_walkExp {s : Nat} (ha : 199 ≤ a) (hst : stR a + 7 < a) (hp : p ∈ k1) (hX : wfx X n cc en) (R : rn0 M a p X n cc en hw g r) (hs : g.1 = (s : Int)) (hsn : s < n) (hk : X.1 0 s = 1 ∨ X.1 0 s = 10 ∨ X.1 0 s = 12 ∨ X.1 0 s = 14) (hW : weq w (wS M (stR a))) (kk : ∀ M', eqy (stP a) M M' → rn0 M' a p X n cc en hw (stepp X w g r).2.1 (stepp X w g r).2.2 → ((stepp X w g r).1.1 = 2 → gl M' a 3 = (stepp X w g r).1.2) → K (stepp X w g r).1.1 M') : em_R_walkExp a M K := by
  have hk1 := k1_or hp
  have hpa : p + 11 < a := by omega
  have ho : stepp X w g r = stpx X g s (evc X.2.1 X.2.2 w g.2.1 161 (X.1 2 s).toNat [] r) := by
    unfold stepp
    have e : g.1.toNat = s := by omega
    rw [if_neg (by omega), e, if_neg (by omega), if_neg (by omega), if_neg (by omega)]
  rw [ho] at kk
  obtain ⟨r1, r2, r3, r4, r5, r6⟩ := R
  have wx := hX.2.2.2.2.2 s hsn
  have hc : cdo X cc (X.1 2 s) := wx.2.2.2.2.2.2.2.2.2.2 (by unfold kxp; omega)
  refine ⟨isP_ r1 hp, isP_ r1 hp, fun _ => ?_⟩
  rw [gr_ r1, r3, hs, tn_, (r2.2.1 s hsn).2.2.1]
  refine x_workR hst hpa hX r2 hc hW r5.1 r6 (fun M1 y1 q1 v1 => ?_)
  generalize evc X.2.1 X.2.2 w g.2.1 161 (X.1 2 s).toNat [] r = E at q1 v1 kk ⊢
  have R1 : rn0 M1 a p X n cc en hw g E.2 := rn0.eqR hpa ⟨r1, r2, r3, r4, r5, r6⟩ y1 (fun b k h => by unfold wkP; omega) q1
  have y1' : eqy (stP a) M M1 := y1.mono (fun b k h => by unfold wkP at h; unfold stP; omega)
  unfold stpx at kk
  have toss : ∀ (v : Int64) (M2 : rf_M), M2 = M1 → (∀ M', eqy (stP a) M M' → rn0 M' a p X n cc en hw (match tss X g.1 v g with | none => (((2, v), g, E.2) : (Nat × Int64) × sgT × rdT) | some g' => ((0, 0), g', E.2)).2.1 (match tss X g.1 v g with | none => (((2, v), g, E.2) : (Nat × Int64) × sgT × rdT) | some g' => ((0, 0), g', E.2)).2.2 → ((match tss X g.1 v g with | none => (((2, v), g, E.2) : (Nat × Int64) × sgT × rdT) | some g' => ((0, 0), g', E.2)).1.1 = 2 → gl M' a 3 = (match tss X g.1 v g with | none => (((2, v), g, E.2) : (Nat × Int64) × sgT × rdT) | some g' => ((0, 0), g', E.2)).1.2) → K ((match tss X g.1 v g with | none => (((2, v), g, E.2) : (Nat × Int64) × sgT × rdT) | some g' => ((0, 0), g', E.2)).1.1 : Nat) M') → em_R_toss a v M2 (fun z9 M9 => K z9 M9) := by
    rintro v M2 rfl kt
    refine x_toss ha hp hX R1 (fun hn M' y v' => ?_) (fun g' hg M' y R' => ?_)
    · rw [hn] at kt
      have y' : eqy (stP a) M M' := y1'.trans (y.mono (fun b k h => by unfold stP; omega))
      exact kt M' y' (rn0.eqR hpa R1 y (fun b k h => by omega) (R1.2.2.2.2.2.eqP y (fun b k h => by omega))) (fun _ => v')
    · rw [hg] at kt
      exact kt M' (y1'.trans y) R' (fun (q : (0 : Nat) = 2) => absurd q (by decide))
  refine ⟨fun z1 => ?_, fun z1 => ⟨fun z2 => ?_, fun z2 => ?_⟩⟩
  · have z1 : E.1.1 = 1 := by omega
    rw [if_pos z1] at kk
    exact kk M1 y1' R1 (fun (q : (3 : Nat) = 2) => absurd q (by decide))
  · have z2 : E.1.1 = 2 := by omega
    rw [if_neg (by omega), if_pos z2] at kk
    rw [m1_lit]
    exact toss (-1) M1 rfl kk
  · rw [if_neg (by omega), if_neg (by omega)] at kk
    obtain ⟨p1, t1, i1, l1, G1, rr1⟩ := R1
    have v2 := v1 (by omega) (by omega)
    refine x_result v2.1 v2.2 ⟨isP_ p1 hp, fun _ => ?_⟩
    rw [gr_ p1, i1, hs, tn_, (t1.2.1 s hsn).1]
    obtain ⟨u0, u1, u2, u3, u4, u5, u6, u7, u8⟩ := t1.2.1 s hsn
    have fin : ∀ (z : Int) (g' : mkT × (Nat → Int) × (Nat → mkT)) (M3 : rf_M), eqy (stP a) M M3 → M3.2.2 a 0 = some p → ptx M3 p X n cc en → plz n z → grl X (fun z => z) hw (z, g') (vP M3 a X) → req E.2 (rP M3 a) → ∀ M4, M4 = wi M3 a 6 z → eqy (stP a) M M4 ∧ rn0 M4 a p X n cc en hw (z, g') E.2 := fun z g' M3 y3 p3 t3 z3 G3 r3 M4 e4 => ⟨by rw [e4]; exact y3.wi ⟨by omega, by omega, by omega⟩, rn0_at hpa p3 t3 hX.1 z3 G3 r3 e4⟩
    have bh := fun (P : Nat → Prop) (hP : pok X P g.1) => pok_bhd hX (P := P) 9 g.1 r4 hP
    have gf := fun (hns : ¬ kmk X s) (P : Nat → Prop) (hk : ∀ h, ¬ kmk X h → P h) (hP : pok X P g.1) => pok_gin hX (P := P) (z := X.1 7 s) hsn (by rw [← hs]; exact hP) (wx.2.2.2.2.1.imp id (fun ⟨y, y1, y2, y3, y4⟩ => ⟨y, y1, y2, y3, fun _ => hk s hns⟩))
    have gs := fun (P : Nat → Prop) (hP : pok X P g.1) => pok_gin hX (P := P) (z := X.1 8 s) hsn (by rw [← hs]; exact hP) (wx.2.2.2.2.2.1.imp id (fun ⟨y, y1, y2, y3, y4⟩ => ⟨y, y1, y2, y3, fun z => by omega⟩))
    have l7 : lnk n (X.1 7 s) (fun _ => True) := wx.2.2.2.2.1.imp id (fun ⟨y, y1, y2, _⟩ => ⟨y, y1, y2, trivial⟩)
    have l8 : lnk n (X.1 8 s) (fun _ => True) := wx.2.2.2.2.2.1.imp id (fun ⟨y, y1, y2, _⟩ => ⟨y, y1, y2, trivial⟩)
    refine ⟨fun k10 => ⟨isP_ p1 hp, fun c => ⟨isP_ p1 hp, fun _ => ?_⟩, fun c => ⟨isP_ p1 hp, fun _ => ?_⟩⟩, fun k12 => ⟨fun c => ⟨isP_ p1 hp, ?_⟩, fun c => ⟨isP_ p1 hp, isP_ p1 hp, fun _ => ?_⟩⟩, fun k14 => ?_, fun k1 => ⟨isP_ p1 hp, fun _ => ?_⟩⟩
    · have nk : ¬ kmk X s := by unfold kmk; omega
      rw [if_neg (by omega), if_pos k10, if_pos ((lgz _).mp c), hs] at kk
      rw [u8]
      refine x_into hX t1 hsn l8 (fun M4 e4 => ?_)
      have q := fin _ g.2 M1 y1' p1 t1 (gs _ G1.2.2.2).1 (grl_move G1 (fun P _ hP => (gs P hP).2)) rr1 M4 e4
      exact kk M4 q.1 q.2 (fun (q : (0 : Nat) = 2) => absurd q (by decide))
    · have nk : ¬ kmk X s := by unfold kmk; omega
      rw [if_neg (by omega), if_pos k10, if_neg (fun q => c ((lgz _).mpr q)), hs] at kk
      rw [u7]
      refine x_into hX t1 hsn l7 (fun M4 e4 => ?_)
      have q := fin _ g.2 M1 y1' p1 t1 (gf nk _ (fun h q k => absurd k q) G1.2.2.2).1 (grl_move G1 (fun P hk hP => (gf nk P hk hP).2)) rr1 M4 e4
      exact kk M4 q.1 q.2 (fun (q : (0 : Nat) = 2) => absurd q (by decide))
    · rw [if_neg (by omega), if_neg (by omega), if_pos k12, if_pos ((lgz _).mp c)] at kk
      rw [← hs]
      refine x_behind hX t1 r4 (fun M4 e4 => ?_)
      have q := fin _ g.2 M1 y1' p1 t1 (bh _ G1.2.2.2).1 (grl_move G1 (fun P _ hP => (bh P hP).2)) rr1 M4 e4
      exact kk M4 q.1 q.2 (fun (q : (0 : Nat) = 2) => absurd q (by decide))
    · have nk : ¬ kmk X s := by unfold kmk; omega
      rw [if_neg (by omega), if_neg (by omega), if_pos k12, if_neg (fun q => c ((lgz _).mpr q)), hs] at kk
      rw [u7]
      refine x_into hX t1 hsn l7 (fun M4 e4 => ?_)
      have q := fin _ g.2 M1 y1' p1 t1 (gf nk _ (fun h q k => absurd k q) G1.2.2.2).1 (grl_move G1 (fun P hk hP => (gf nk P hk hP).2)) rr1 M4 e4
      exact kk M4 q.1 q.2 (fun (q : (0 : Nat) = 2) => absurd q (by decide))
    · rw [if_pos k14] at kk
      exact toss E.1.2 M1 rfl kk
    · rw [if_neg (by omega), if_neg (by omega), if_neg (by omega)] at kk
      rw [u1]
      refine x_assign (fun M3 y3 m3 => ?_)
      have p3 : M3.2.2 a 0 = some p := by rw [y3.2]; exact p1
      have t3 := t1.eq y3 (fun b k _ _ => by omega)
      refine ⟨isP_ p3 hp, ?_⟩
      rw [gr_ p3, y3.i (by omega), i1]
      refine x_behind hX t3 r4 (fun M4 e4 => ?_)
      have G3 := grl_asg (z := bhd X 9 g.1) (l := X.1 1 s) (x := E.1.2) G1 (fun P _ hP => (bh P hP).2)
      have q := fin _ _ M3 (y1'.trans (y3.mono (fun b k h => ⟨by omega, by omega, by omega⟩))) p3 t3 (bh _ G1.2.2.2).1 (grl_v G3 m3 (fun j _ => y3.i (by omega)) (fun h => ⟨(y3.1 _ _ (by omega)).1, fun l _ _ => y3.l (by omega), fun l _ => y3.l (by omega), y3.i (by omega)⟩)) (rr1.eqP y3 (fun b k h => by omega)) M4 e4
      exact kk M4 q.1 q.2 (fun (q : (0 : Nat) = 2) => absurd q (by decide))
theorem x_addRule {c z : Nat} {K : rf_M → Prop} (hc : gi M (a + 2) 3 = (c : Int)) (hc3 : c < 300) (hz : z < 40) (kk : ∀ M', eqy (fun b k => (b = a + 2 ∧ k = 3) ∨ (b = a + 5 ∧ k = c)) M M' → gi M' (a + 2) 3 = (c : Int) + 1 → gi M' (a + 5) c = (z : Int) → K M') : em_D_addRule (a + 2) (z : Int) M K := by
  refine ⟨fun h => absurd h (by rw [hc]; omega), fun _ _ M1 e1 M2 e2 => ?_⟩
  rw [hc, tn_] at e1
  have e1 : M1 = wi M (a + 5) c (z : Int) := e1
  have g1 : gi M1 (a + 2) 3 = (c : Int) := by rw [e1, gi_of (Or.inl (by omega)), hc]
  rw [g1] at e2
  refine kk M2 ?_ ?_ ?_
  · rw [e2, e1]
    exact ((eqy.rfl' M).wi (Or.inr ⟨rfl, rfl⟩)).wi (Or.inl ⟨rfl, rfl⟩)
  · rw [e2, gi_at (inr_z (by omega) (by omega))]
  · rw [e2, gi_of (Or.inl (by omega)), e1, gi_at (inr_z (by omega) (by omega))]
/-- the run at a is g behind k steps -/
def rnR (M : rf_M) (a p : Nat) (X : txT) (n cc : Nat) (en : Int) (g : sgT) (r : rdT) (k : Nat) : Prop := gi M a 1 = (k : Int) ∧ ∃ hw, hw ≤ k ∧ rn0 M a p X n cc en hw g r
theorem x_rstep {k : Nat} (ha : 199 ≤ a) (hst : stR a + 7 < a) (hp : p ∈ k1) (hX : wfx X n cc en) (R : rnR M a p X n cc en g r k) (hk : k < 300) (hW : weq w (wS M (stR a))) (kk : ∀ M', eqy (fun b _ => a ≤ b ∧ b ≤ a + 12) M M' → rnR M' a p X n cc en (stepp X w g r).2.1 (stepp X w g r).2.2 (if (stepp X w g r).1.1 = 0 then k + 1 else k) → ((stepp X w g r).1.1 = 2 → gl M' a 3 = (stepp X w g r).1.2) → K (stepp X w g r).1.1 M') : em_R_step a M K := by
  have hk1 := k1_or hp
  have hpa : p + 11 < a := by omega
  obtain ⟨hk0, hw, hhw, R⟩ := R
  have R' := R
  obtain ⟨r1, r2, r3, r4, r5, r6⟩ := R
  -- what ends a step
  have fin : ∀ (o : (Nat × Int64) × sgT × rdT) (hw' : Nat) (M' : rf_M), stepp X w g r = o → eqy (stP a) M M' → hw' ≤ k + 1 → (o.1.1 ≠ 0 → hw' ≤ k) → rn0 M' a p X n cc en hw' o.2.1 o.2.2 → (o.1.1 = 2 → gl M' a 3 = o.1.2) → e_R_step_183 a o.1.1 M' K := fun o hw' M' ho y h1 h2 R2 h3 => by
    rw [ho] at kk
    have gk : gi M' a 1 = (k : Int) := (y.i (by unfold stP; omega)).trans hk0
    refine ⟨fun z M1 e1 => ?_, fun z => ?_⟩
    · have z : o.1.1 = 0 := by omega
      rw [gk] at e1
      rw [if_pos z] at kk
      have y1 : eqy (fun b k => b = a ∧ k = 1) M' M1 := by rw [e1]; exact (eqy.rfl' M').wi ⟨rfl, rfl⟩
      refine kk M1 ((y.mono (fun b k h => ⟨h.1, h.2.1⟩)).trans (y1.mono (fun b k h => by omega))) ⟨?_, hw', h1, ?_⟩ (fun q => by omega)
      · rw [e1, gi_at (inr_z (by omega) (by omega))]; omega
      · exact rn0.eqR hpa R2 y1 (fun b k h => by omega) (R2.2.2.2.2.2.eqP y1 (fun b k h => by omega))
    · have z : ¬ o.1.1 = 0 := by omega
      rw [if_neg z] at kk
      exact kk M' (y.mono (fun b k h => ⟨h.1, h.2.1⟩)) ⟨gk, hw', h2 z, R2⟩ h3
  refine ⟨fun _ => ⟨isP_ r1 hp, ?_⟩, fun h => absurd (by omega) h⟩
  rw [gr_ r1, r3]
  refine x_has r2.1.1 (fun hr => ⟨fun w => absurd w (by decide), fun _ => ⟨isP_ r1 hp, fun _ => ?_⟩⟩) (fun hr => ⟨fun _ => ?_, fun w => absurd rfl w⟩)
  · obtain ⟨s, hs⟩ : ∃ s : Nat, g.1 = (s : Int) := ⟨g.1.toNat, by omega⟩
    have hsn : s < n := by omega
    have wx := hX.2.2.2.2.2 s hsn
    have hknd := wx.2.2.2.2.2.2.1
    obtain ⟨u0, u1, u2, u3, u4, u5, u6, u7, u8⟩ := r2.2.1 s hsn
    rw [gr_ r1, r3, hs, tn_, u0]
    have es : g.1.toNat = s := by omega
    have mark : kmk X s → em_D_mark (a + 2) (gi M (p + 6) s) M (fun M3 => isP M3 a 0 ∧ (isP M3 a 0 ∧ ((0 ≤ gi M3 a 6 ∧ gi M3 a 6 < 40) → em_P_into (gr M3 a 0) (gi M3 a 6) (gi M3 (gr M3 a 0 + 8) (gi M3 a 6).toNat) M3 (fun z4 M4 => ∀ M5 : rf_M, M5 = wi M4 a 6 z4 → e_R_step_183 a 0 M5 K)))) := fun hm => by
      have ho : stepp X w g r = ((0, 0), (gin X g.1 (X.1 7 s), g.2.1, g.2.2.1, va_up g.2.2.2 s g.2.1), r) := by
        unfold stepp
        rw [if_neg (by omega), es, if_pos (show X.1 0 s = 15 ∨ X.1 0 s = 17 from hm)]
      have hd7 := wx.2.2.2.2.2.2.2.1 hm
      obtain ⟨lv, hlv⟩ : ∃ lv : Nat, X.1 5 s = (lv : Int) := ⟨(X.1 5 s).toNat, by have := wx.2.2.1; omega⟩
      rw [u5, hlv]
      refine x_mark (by omega) (fun M3 y3 m3 o3 => ?_)
      have p3 : M3.2.2 a 0 = some p := by rw [y3.2]; exact r1
      have t3 := r2.eq y3 (fun b k _ _ => by omega)
      refine ⟨isP_ p3 hp, isP_ p3 hp, fun _ => ?_⟩
      rw [gr_ p3, y3.i (by omega), r3, hs, tn_, (t3.2.1 s hsn).2.2.2.2.2.2.2.1]
      refine x_into hX t3 hsn (wx.2.2.2.2.1.imp id (fun ⟨y, y1, y2, _⟩ => ⟨y, y1, y2, trivial⟩)) (fun M5 e5 => ?_)
      have G := grl_mark (v' := vP M3 a X) hX hsn hs r5 ⟨(y3.1 _ _ (by omega)).1, fun l _ _ => y3.l (by omega), fun l _ => y3.l (by omega), y3.i (by omega)⟩ (fun j _ => y3.i (by omega)) (by show meq (mP M a) (kP M3 a (X.1 5 s).toNat); rw [hlv, tn_]; exact m3) (fun x hx hd => by
        have hx5 := (hX.2.2.2.2.2 x hx).2.2.1
        exact o3 (X.1 5 x).toNat (by omega) (by omega)) (wx.2.2.2.2.1.imp id (fun ⟨y, y1, y2, y3, _⟩ => ⟨y, y1, y2, y3⟩))
      rw [hs] at G ho
      have R3 := rn0_at (g' := (g.2.1, g.2.2.1, va_up g.2.2.2 s g.2.1)) hpa p3 t3 hX.1 G.2 G.1 (r6.eqP y3 (fun b k h => by omega)) e5
      refine fin _ hw M5 ho ?_ (by omega) (fun q => absurd rfl q) R3 (fun (q : (0 : Nat) = 2) => absurd q (by decide))
      rw [e5]
      exact (y3.mono (fun b k h => ⟨by omega, by omega, by omega⟩)).wi ⟨by omega, by omega, by omega⟩
    refine ⟨fun k13 => ?_, fun k15 => ⟨isP_ r1 hp, fun _ => mark (Or.inl k15)⟩, fun k17 => ⟨isP_ r1 hp, fun _ => mark (Or.inr k17)⟩, fun k19 => ?_, fun ko => ?_⟩
    · have ho : stepp X w g r = (if ard X 15 9 g.1 < 0 then ((4, 0), g, r) else ((0, 0), (gin X (ard X 15 9 g.1) (X.1 8 (ard X 15 9 g.1).toNat), g.2.2.2 (ard X 15 9 g.1).toNat, g.2.2.1, g.2.2.2), r)) := by
        unfold stepp
        rw [if_neg (by omega), es, if_neg (by omega), if_neg (by omega), if_pos k13]
      refine x_retry ha hp hX R' (fun q => ?_) (fun x q M2 y2 R2 => ?_)
      · rw [if_pos q] at ho
        exact fin _ hw M ho (eqy.rfl' M) (by omega) (fun _ => hhw) R' (fun (q : (4 : Nat) = 2) => absurd q (by decide))
      · rw [if_neg (by omega), q, tn_] at ho
        exact fin _ hw M2 ho y2 (by omega) (fun q => absurd rfl q) R2 (fun (q : (0 : Nat) = 2) => absurd q (by decide))
    · have ho : stepp X w g r = ((0, 0), (bhd X 9 g.1, (g.2.1.1, g.2.1.2.1, g.2.1.2.2.1, g.2.1.2.2.2 + 1), va_up g.2.2.1 g.2.1.2.2.2.toNat g.1, g.2.2.2), r) := by
        unfold stepp
        rw [if_neg (by omega), es, if_neg (by omega), if_pos k19]
      obtain ⟨c, hc⟩ : ∃ c : Nat, g.2.1.2.2.2 = (c : Int) := ⟨g.2.1.2.2.2.toNat, by have := r5.2.1; omega⟩
      have hch : c ≤ hw := by have := r5.2.1.2; omega
      have hcm : gi M (a + 2) 3 = (c : Int) := r5.1.2.2.2.trans hc
      refine x_addRule hcm (by omega) (by have := hX.1; omega) (fun M2 y2 c2 z2 => ?_)
      have p2 : M2.2.2 a 0 = some p := by rw [y2.2]; exact r1
      have t2 := r2.eq y2 (fun b k _ _ => by omega)
      refine ⟨isP_ p2 hp, ?_⟩
      rw [gr_ p2, y2.i (by omega), r3]
      have bh := fun (P : Nat → Prop) (hP : pok X P g.1) => pok_bhd hX (P := P) 9 g.1 r4 hP
      refine x_behind hX t2 r4 (fun M5 e5 => ?_)
      have G := grl_rule (v' := vP M2 a X) (z := bhd X 9 g.1) hc r5 ⟨(y2.1 _ _ (by omega)).1, fun l _ _ => y2.l (by omega), fun l _ => y2.l (by omega), by show gi M2 (a + 2) 3 = gi M (a + 2) 3 + 1; rw [c2, hcm]⟩ (by show gi M2 (a + 5) c = g.1; rw [z2, hs]) (fun j _ hj => y2.i (by omega)) (fun x => ⟨(y2.1 _ _ (by omega)).1, fun l _ _ => y2.l (by omega), fun l _ => y2.l (by omega), y2.i (by omega)⟩) (fun P _ hP => (bh P hP).2)
      have R3 := rn0_at hpa p2 t2 hX.1 (bh _ r5.2.2.2).1 G (r6.eqP y2 (fun b k h => by omega)) e5
      refine fin _ _ M5 ho ?_ (by omega) (fun q => absurd rfl q) R3 (fun (q : (0 : Nat) = 2) => absurd q (by decide))
      rw [e5]
      exact (y2.mono (fun b k h => ⟨by omega, by omega, by omega⟩)).wi ⟨by omega, by omega, by omega⟩
    · refine x_walkExp ha hst hp hX R' hs hsn (by unfold knd at hknd; omega) hW (fun M2 y2 R2 h2 => ?_)
      exact fin _ hw M2 rfl y2 (by omega) (fun _ => hhw) R2 h2
  · have hneg : g.1 < 0 := by
      rcases r4 with q | ⟨x, q1, q2⟩
      · omega
      · omega
    have ho : stepp X w g r = ((1, 0), g, r) := by
      unfold stepp
      rw [if_pos hneg]
    rw [ho] at kk
    exact kk M (eqy.rfl' M) ⟨hk0, hw, hhw, R'⟩ (fun (q : (1 : Nat) = 2) => absurd q (by decide))
end PR3
