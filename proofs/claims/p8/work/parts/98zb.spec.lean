/-! THE PURE PICTURE OF ALL: cells, rules, clients, rows -/
def vld (X : txT) (n : Nat) (z : Int) : Prop := ∃ s : Nat, z = (s : Int) ∧ s < n ∧ X.1 0 s = 19
/-- the rules that a run has made are rules -/
def gvl (X : txT) (n k : Nat) (g : sgT) : Prop := plz n g.1 ∧ ∃ hw : Nat, hw ≤ k ∧ (0 ≤ g.2.1.2.2.2 ∧ g.2.1.2.2.2 ≤ (hw : Int)) ∧ (∀ j, j < hw → vld X n (g.2.2.1 j)) ∧ pok X (fun h => kmk X h → 0 ≤ (g.2.2.2 h).2.2.2 ∧ (g.2.2.2 h).2.2.2 ≤ (hw : Int)) g.1
theorem asg_cnt (m : mkT) (l : Int) (v : Int64) : (asg m l v).2.2.2 = m.2.2.2 := by
  unfold asg
  split
  · rfl
  · split <;> rfl
section GV
variable {X : txT} {n cc k : Nat} {en : Int} {w : wdT} {g : sgT} {r : rdT}
theorem gvl_up {k' : Nat} (h : gvl X n k g) (hk : k ≤ k') : gvl X n k' g := by
  obtain ⟨h1, hw, h0, h⟩ := h
  exact ⟨h1, hw, Nat.le_trans h0 hk, h⟩
theorem gvl_0 (hX : wfx X n cc en) : gvl X n 0 (run0 en) := by
  refine ⟨?_, 0, Nat.le_refl _, ⟨by show (0 : Int) ≤ 0; omega, by show (0 : Int) ≤ 0; omega⟩, fun j hj => absurd hj (by omega), ?_⟩
  · rcases hX.2.2.2.2.1 with q | ⟨x, q1, q2, q3⟩
    · exact Or.inl q
    · exact Or.inr ⟨x, q1, q2⟩
  · show pok X _ en
    rcases hX.2.2.2.2.1 with q | ⟨x, q1, q2, q3⟩
    · exact pok_neg (by omega)
    · rw [q1]
      exact pok_of (fun p hp => by omega)
theorem gvl_tss {v : Int64} {g' : sgT} (hX : wfx X n cc en) (h : gvl X n k g) (ht : tss X g.1 v g = some g') : gvl X n k g' := by
  obtain ⟨h1, hw, hwk, h2, h3, h4⟩ := h
  unfold tss at ht
  rcases pok_ard hX (k := 17) 9 g.1 h1 h4 with q | ⟨x, q1, q2, q3, q4, q5⟩
  · rw [q, if_pos (by omega)] at ht; cases ht
  · rw [q1, if_neg (by omega), tn_] at ht
    injection ht with ht
    rw [← ht]
    have wx := hX.2.2.2.2.2 x q2
    have gg := pok_gin hX (z := X.1 8 x) q2 q4 (wx.2.2.2.2.2.1.imp id (fun ⟨y, y1, y2, y3, y4⟩ => ⟨y, y1, y2, y3, fun z => by omega⟩))
    refine ⟨gg.1, hw, hwk, ?_, h3, gg.2⟩
    show 0 ≤ (asg (g.2.2.2 x) _ v).2.2.2 ∧ (asg (g.2.2.2 x) _ v).2.2.2 ≤ (hw : Int)
    rw [asg_cnt]
    exact q5 (Or.inr q3)
theorem gvl_step (hX : wfx X n cc en) (h : gvl X n k g) : gvl X n (k + 1) (stepp X w g r).2.1 := by
  have h' := gvl_up h (Nat.le_succ k)
  obtain ⟨h1, hw, hwk, h2, h3, h4⟩ := h
  unfold stepp
  split
  · exact h'
  rename_i c0
  rcases h1 with q | ⟨s, hs, hsn⟩
  · omega
  have h1 : plz n g.1 := Or.inr ⟨s, hs, hsn⟩
  have es : g.1.toNat = s := by omega
  have wx := hX.2.2.2.2.2 s hsn
  have bh := fun (P : Nat → Prop) (hP : pok X P g.1) => pok_bhd hX (P := P) 9 g.1 h1 hP
  rw [es]
  split
  · rename_i c1
    have b := pok_dep hX hsn (by rw [← hs]; exact h4)
    have b' : pok X (fun h => kmk X h → 0 ≤ (va_up g.2.2.2 s g.2.1 h).2.2.2 ∧ (va_up g.2.2.2 s g.2.1 h).2.2.2 ≤ (hw : Int)) (s : Int) := pok_mono b (fun x hx hk => by
      have ne : x ≠ s := fun q => by have := hx.2.2; rw [q] at this; omega
      rw [va_up_of ne]
      exact hx.1 hk)
    have q := pok_gin hX (z := X.1 7 s) hsn b' (wx.2.2.2.2.1.imp id (fun ⟨x, x1, x2, x3, _⟩ => ⟨x, x1, x2, x3, fun _ _ => by rw [va_up_at]; exact h2⟩))
    rw [← hs] at q
    exact ⟨q.1, hw, by omega, h2, h3, q.2⟩
  · split
    · rename_i c2
      obtain ⟨c, hc⟩ : ∃ c : Nat, g.2.1.2.2.2 = (c : Int) := ⟨g.2.1.2.2.2.toNat, by omega⟩
      refine ⟨(bh _ h4).1, max hw (c + 1), by omega, ⟨?_, ?_⟩, fun j hj => ?_, (bh _ (pok_mono h4 (fun x hx hk => ⟨(hx hk).1, ?_⟩))).2⟩
      · show (0 : Int) ≤ g.2.1.2.2.2 + 1
        omega
      · show g.2.1.2.2.2 + 1 ≤ ((max hw (c + 1) : Nat) : Int)
        omega
      · show vld X n (va_up g.2.2.1 g.2.1.2.2.2.toNat g.1 j)
        rw [show g.2.1.2.2.2.toNat = c by omega]
        by_cases e : j = c
        · rw [e, va_up_at]; exact ⟨s, hs, hsn, c2⟩
        · rw [va_up_of e]; exact h3 j (by omega)
      · have := (hx hk).2
        show (g.2.2.2 x).2.2.2 ≤ ((max hw (c + 1) : Nat) : Int)
        omega
    · split
      · rename_i c3
        rcases pok_ard hX (k := 15) 9 g.1 h1 h4 with q | ⟨x, q1, q2, q3, q4, q5⟩
        · rw [q, if_pos (by omega)]; exact h'
        · rw [q1, if_neg (by omega), tn_]
          have wy := hX.2.2.2.2.2 x q2
          have gg := pok_gin hX (z := X.1 8 x) q2 q4 (wy.2.2.2.2.2.1.imp id (fun ⟨y, y1, y2, y3, y4⟩ => ⟨y, y1, y2, y3, fun z => by omega⟩))
          exact ⟨gg.1, hw, by omega, q5 (Or.inl q3), h3, gg.2⟩
      · rename_i c1 c2 c3
        unfold stpx
        generalize evc X.2.1 X.2.2 w g.2.1 161 (X.1 2 s).toNat [] r = E
        have tos : ∀ v : Int64, gvl X n (k + 1) (match tss X g.1 v g with | none => (((2, v), g, E.2) : (Nat × Int64) × sgT × rdT) | some g' => ((0, 0), g', E.2)).2.1 := fun v => by
          cases ht : tss X g.1 v g with
          | none => exact h'
          | some g' => exact gvl_tss hX h' ht
        have nk : ¬ kmk X s := c1
        have gf := pok_gin hX (z := X.1 7 s) hsn (by rw [← hs]; exact h4) (wx.2.2.2.2.1.imp id (fun ⟨y, y1, y2, y3, y4⟩ => ⟨y, y1, y2, y3, fun _ k => absurd k nk⟩))
        have gs := pok_gin hX (z := X.1 8 s) hsn (by rw [← hs]; exact h4) (wx.2.2.2.2.2.1.imp id (fun ⟨y, y1, y2, y3, y4⟩ => ⟨y, y1, y2, y3, fun z => by omega⟩))
        rw [← hs] at gf gs
        split
        · exact h'
        · split
          · exact tos (-1)
          · split
            · exact tos E.1.2
            · split
              · split
                · exact ⟨gs.1, hw, by omega, h2, h3, gs.2⟩
                · exact ⟨gf.1, hw, by omega, h2, h3, gf.2⟩
              · split
                · split
                  · exact ⟨(bh _ h4).1, hw, by omega, h2, h3, (bh _ h4).2⟩
                  · exact ⟨gf.1, hw, by omega, h2, h3, gf.2⟩
                · refine ⟨(bh _ h4).1, hw, by omega, ?_, h3, (bh _ h4).2⟩
                  show 0 ≤ (asg g.2.1 _ _).2.2.2 ∧ (asg g.2.1 _ _).2.2.2 ≤ (hw : Int)
                  rw [asg_cnt]
                  exact h2
end GV
/-! what is read in a step is as the world is -/
def rnq (w : wdT) (r r' : rdT) : Prop := ∀ l, l < 16 → bt r'.1 l = true → (bt r.1 l = true ∧ r'.2.1 l = r.2.1 l ∧ r'.2.2 l = r.2.2 l) ∨ (r'.2.1 l = w.1 l ∧ r'.2.2 l = w.2 l)
theorem rnq.rfl' (w : wdT) (r : rdT) : rnq w r r := fun _ _ b => Or.inl ⟨b, rfl, rfl⟩
theorem rnq.trans {w : wdT} {r r' r'' : rdT} (h : rnq w r r') (h' : rnq w r' r'') : rnq w r r'' := fun l hl b => by
  rcases h' l hl b with ⟨a1, a2, a3⟩ | q
  · rcases h l hl a1 with ⟨b1, b2, b3⟩ | ⟨b2, b3⟩
    · exact Or.inl ⟨b1, a2.trans b2, a3.trans b3⟩
    · exact Or.inr ⟨a2.trans b2, a3.trans b3⟩
  · exact Or.inr q
theorem stale_rnq {w : wdT} {r r' : rdT} (h : rnq w r r') (h' : rsub r r') : stale w r' = stale w r := by
  cases hs : stale w r with
  | true =>
    unfold stale at hs ⊢
    rw [List.any_eq_true] at hs ⊢
    obtain ⟨l, hl, q⟩ := hs
    rw [Bool.and_eq_true] at q
    obtain ⟨a1, a2, a3⟩ := h' l (List.mem_range.mp hl) q.1
    exact ⟨l, hl, by rw [a1, a3]; exact q.2⟩
  | false =>
    cases hs' : stale w r' with
    | false => rfl
    | true =>
      unfold stale at hs hs'
      rw [List.any_eq_true] at hs'
      rw [List.any_eq_false] at hs
      obtain ⟨l, hl, q⟩ := hs'
      rw [Bool.and_eq_true] at q
      rcases h l (List.mem_range.mp hl) q.1 with ⟨a1, a2, a3⟩ | ⟨a2, a3⟩
      · exact absurd (by rw [a1, ← a3]; exact q.2) (hs l hl)
      · have q2 := q.2
        rw [a3] at q2
        simp at q2
section RN
variable {O A : Nat → Int} {w : wdT} {m : mkT}
theorem lval_rnq {r : rdT} {l : Int} {q : Int64 × rdT} (h : lval w m r l = some q) : rnq w r q.2 := by
  unfold lval at h
  by_cases c1 : 0 ≤ l ∧ l < 16
  · rw [if_pos c1] at h
    split at h
    · injection h with h; rw [← h]; exact rnq.rfl' w r
    · split at h
      · injection h with h; rw [← h]; exact rnq.rfl' w r
      · split at h
        · cases h
        · injection h with h
          rw [← h]
          intro j hj b
          by_cases e : j = l.toNat
          · subst e
            exact Or.inr ⟨va_up_at _ _ _, va_up_at _ _ _⟩
          · have b : bt (bs r.1 l.toNat) j = true := b
            rw [bt_bs (by omega) hj] at b
            have b : bt r.1 j = true := by simpa [e] using b
            exact Or.inl ⟨b, va_up_of e, va_up_of e⟩
  · rw [if_neg c1] at h
    split at h
    · injection h with h; rw [← h]; exact rnq.rfl' w r
    · injection h with h; rw [← h]; exact rnq.rfl' w r
theorem evc_rnq : ∀ (f i : Nat) (st : List Int64) (r : rdT), rnq w r (evc O A w m f i st r).2 ∧ ((evc O A w m f i st r).1.1 = 1 → stale w (evc O A w m f i st r).2 = true)
  | 0, _, _, r => ⟨rnq.rfl' w r, fun (q : (0 : Nat) = 1) => absurd q (by decide)⟩
  | f + 1, i, st, r => by
    unfold evc
    split
    · exact ⟨rnq.rfl' w r, fun (q : (0 : Nat) = 1) => absurd q (by decide)⟩
    · split
      · exact evc_rnq f _ _ r
      · split
        · split
          · rename_i hq
            refine ⟨rnq.rfl' w r, fun _ => ?_⟩
            unfold lval at hq
            split at hq
            · split at hq
              · cases hq
              · split at hq
                · cases hq
                · split at hq
                  · rename_i hs; exact hs
                  · cases hq
            · split at hq <;> cases hq
          · rename_i q hq
            have := evc_rnq f (i + 1) (q.1 :: st) q.2
            exact ⟨(lval_rnq hq).trans this.1, this.2⟩
        · split
          · exact evc_rnq f _ _ r
          · split
            · exact ⟨rnq.rfl' w r, fun (q : (2 : Nat) = 1) => absurd q (by decide)⟩
            · exact evc_rnq f _ _ r
theorem stepp_rnq (X : txT) (w : wdT) (g : sgT) (r : rdT) : rnq w r (stepp X w g r).2.2 ∧ ((stepp X w g r).1.1 = 3 → stale w (stepp X w g r).2.2 = true) := by
  unfold stepp
  split
  · exact ⟨rnq.rfl' w r, fun (q : (1 : Nat) = 3) => absurd q (by decide)⟩
  · split
    · exact ⟨rnq.rfl' w r, fun (q : (0 : Nat) = 3) => absurd q (by decide)⟩
    · split
      · exact ⟨rnq.rfl' w r, fun (q : (0 : Nat) = 3) => absurd q (by decide)⟩
      · split
        · split
          · exact ⟨rnq.rfl' w r, fun (q : (4 : Nat) = 3) => absurd q (by decide)⟩
          · exact ⟨rnq.rfl' w r, fun (q : (0 : Nat) = 3) => absurd q (by decide)⟩
        · have e := evc_rnq (O := X.2.1) (A := X.2.2) (w := w) (m := g.2.1) 161 (X.1 2 g.1.toNat).toNat [] r
          generalize evc X.2.1 X.2.2 w g.2.1 161 (X.1 2 g.1.toNat).toNat [] r = E at e
          unfold stpx
          split
          · rename_i c; exact ⟨e.1, fun _ => e.2 c⟩
          · split
            · split
              · exact ⟨e.1, fun (q : (2 : Nat) = 3) => absurd q (by decide)⟩
              · exact ⟨e.1, fun (q : (0 : Nat) = 3) => absurd q (by decide)⟩
            · split
              · split
                · exact ⟨e.1, fun (q : (2 : Nat) = 3) => absurd q (by decide)⟩
                · exact ⟨e.1, fun (q : (0 : Nat) = 3) => absurd q (by decide)⟩
              · split
                · exact ⟨e.1, fun (q : (0 : Nat) = 3) => absurd q (by decide)⟩
                · split
                  · exact ⟨e.1, fun (q : (0 : Nat) = 3) => absurd q (by decide)⟩
                  · exact ⟨e.1, fun (q : (0 : Nat) = 3) => absurd q (by decide)⟩
end RN
/-- texts: text, statements, code, entry -/
abbrev tsT : Type := Nat → txT × Nat × Nat × Int
/-- a client: what it has to do, cuts, urgent, 0 none 1 running 2 waiting, steps, run, what is read -/
abbrev clT : Type := List Nat × Int × Bool × Nat × Nat × sgT × rdT
/-- a row: kind, client, what, steps, cuts, value -/
abbrev rwT : Type := (Int × Int × Int × Int × Int) × Int64
/-- all: world, rules (text, statement), clients, rows -/
abbrev syT : Type := wdT × List (Nat × Int) × (Nat → clT) × List rwT
def mkV (V : Nat → Int64) : mkT := (65535, V, fun _ => 0, 0)
def wd0 : wdT := (fun _ => 0, fun _ => 0)
def hld (Ts : tsT) (V : Nat → Int64) (q : Nat × Int) : Bool := (!(decide ((evc (Ts q.1).1.2.1 (Ts q.1).1.2.2 wd0 (mkV V) 161 ((Ts q.1).1.1 2 q.2.toNat).toNat [] rd0).1.1 = 1)) && !(decide ((evc (Ts q.1).1.2.1 (Ts q.1).1.2.2 wd0 (mkV V) 161 ((Ts q.1).1.1 2 q.2.toNat).toNat [] rd0).1.1 = 2))) && !(decide ((evc (Ts q.1).1.2.1 (Ts q.1).1.2.2 wd0 (mkV V) 161 ((Ts q.1).1.1 2 q.2.toNat).toNat [] rd0).1.2 = 0))
def wld (w : wdT) (m : mkT) (l : Nat) : Int64 := if bt m.1 l then m.2.1 l else w.1 l
def nru (t : Nat) (g : sgT) : List (Nat × Int) := (List.range g.2.1.2.2.2.toNat).map (fun j => (t, g.2.2.1 j))
def wel (Ts : tsT) (S : syT) (t : Nat) (g : sgT) : Bool := (S.2.1.all (hld Ts (wld S.1 g.2.1)) && (nru t g).all (hld Ts (wld S.1 g.2.1))) && decide (S.2.1.length + g.2.1.2.2.2.toNat ≤ 32)
def brg (w : wdT) (m : mkT) : wdT := (wld w m, fun l => if bt m.1 l then Int32.ofInt ((w.2 l).toInt + 1) else w.2 l)
def hel (S : syT) (c : Nat) : Bool := !(S.2.2.1 c).2.2.1 && (List.range 8).any (fun k => (S.2.2.1 k).2.2.1)
def setc (S : syT) (c : Nat) (x : clT) : syT := (S.1, S.2.1, va_up S.2.2.1 c x, S.2.2.2)
def ovr (cl : clT) : clT := (cl.1.tail, 0, false, 0, 0, run0 (-1), rd0)
def beg (Ts : tsT) (cl : clT) : Nat × sgT × rdT := if cl.2.2.2.1 = 1 then cl.2.2.2.2 else (0, run0 (Ts (cl.1.headD 0)).2.2.2, rd0)
def out (Ts : tsT) (S : syT) (cl : clT) : (Nat × Int64) × sgT × rdT := if 300 ≤ (beg Ts cl).1 then ((2, -3), (beg Ts cl).2) else stepp (Ts (cl.1.headD 0)).1 S.1 (beg Ts cl).2.1 (beg Ts cl).2.2
/-- a turn behind its step -/
def trn2 (Ts : tsT) (S : syT) (c : Nat) (cl : clT) (o : (Nat × Int64) × sgT × rdT) : Int × syT :=
  if o.1.1 = 0 then (0, setc S c (cl.1, cl.2.1, cl.2.2.1, 1, (beg Ts cl).1 + 1, o.2))
  else if stale S.1 o.2.2 = true then (3, setc S c (cl.1, cl.2.1 + 1, decide (4 ≤ cl.2.1 + 1), 0, 0, run0 (-1), rd0))
  else if o.1.1 = 4 then (4, setc S c (cl.1, cl.2.1, false, 2, 0, run0 (-1), o.2.2))
  else if hel S c = true then (6, S)
  else if 300 ≤ S.2.2.2.length then (-1, S)
  else if o.1.1 = 1 ∧ wel Ts S (cl.1.headD 0) o.2.1 = true then (1, (brg S.1 o.2.1.2.1, S.2.1 ++ nru (cl.1.headD 0) o.2.1, va_up S.2.2.1 c (ovr cl), S.2.2.2 ++ [((1, (c : Int), (cl.1.headD 0 : Int), ((beg Ts cl).1 : Int) + 1, cl.2.1), 0)]))
  else (2, (S.1, S.2.1, va_up S.2.2.1 c (ovr cl), S.2.2.2 ++ [((2, (c : Int), (cl.1.headD 0 : Int), ((beg Ts cl).1 : Int) + 1, cl.2.1), if o.1.1 = 1 then -2 else o.1.2)]))
/-- a turn of client c -/
def trn (Ts : tsT) (S : syT) (c : Nat) : Int × syT :=
  if (S.2.2.1 c).1.length = 0 then (5, S)
  else if (S.2.2.1 c).2.2.2.1 = 2 ∧ stale S.1 (S.2.2.1 c).2.2.2.2.2.2 = false then (4, S)
  else trn2 Ts S c (S.2.2.1 c) (out Ts S (S.2.2.1 c))
